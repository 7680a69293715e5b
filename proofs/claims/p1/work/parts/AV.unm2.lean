/-! A volume unmounted: what holds stays; the row of the reference. -/
theorem unm_pre {U : NodV} {V : MemV} {H : OneV} {W : WkV} {n vol t T v o : Nat} (i : Inv U V H W n vol t T (fun _ => 0)) (v3 : v < 3) (nb : ∀ e, e < 64 → ofB U V (nI v) e = true → hcV V e + (hcH H e + hcW W e) = 0) (ho : V 10 v = nI o) (o64 : o < 64) : (∀ e, e < 64 → ofB U V (nI v) e = true → V 1 e = 1) ∧ V 1 o = 1 ∧ ¬ ofB U V (nI v) o = true := by
  refine ⟨fun e he q => ?_, (i.M.ok v3 o64 ho).2.2.1, fun q => ?_⟩
  · have q1 := (ofB_t.mp q).1
    rcases i.M.st e he with z | z | z
    · exact absurd z q1
    · exact z
    · have l := ((i.L e he).2.2 q1).2 z
      have z0 := nb e he q
      have c0 : hcC V e = 0 := cnt_zero (fun k _ hk => by
        simp only [decide_eq_false_iff_not]
        rintro ⟨y1, y2⟩
        rcases i.M.st k (by omega) with s | s | s
        · exact y1 s
        · have := (vl_par i.N i.M (show k < 64 by omega) s he y2).2
          rw [z] at this
          exact absurd this (by decide)
        · rw [(i.M.go k (by omega) s).1] at y2
          exact nI_m1 (show e < 2 ^ 31 by omega) y2.symm)
      simp only [Nat.add_zero] at l
      unfold hc at l
      omega
  · have z0 := nb o o64 q
    have : 0 < hcV V o := cnt_pos (i := v) (Nat.zero_le _) (by omega) (by simp [ho])
    omega
theorem Inv.unm {U : NodV} {V V' : MemV} {H : OneV} {W : WkV} {n vol t T v o : Nat} (i : Inv U V H W n vol t T (fun _ => 0)) (h30 : T + 1 ≤ 1000000000) (v1 : 1 ≤ v) (v3 : v < 3) (m9 : ¬ V 9 v = -1) (nb : ∀ e, e < 64 → ofB U V (nI v) e = true → hcV V e + (hcH H e + hcW W e) = 0) (ho : V 10 v = nI o) (o64 : o < 64) (u : UnV U V v o V') : Inv U V' H W n vol t (T + 1) (fun _ => 0) := by
  have hN := i.N
  have hM := i.M
  have n60 := hN.n60
  obtain ⟨g, o1, no⟩ := unm_pre i v3 nb ho o64
  obtain ⟨kk, a1, a5, a6, a9, a10⟩ := u
  have c2 := kk 2 (by decide) (by decide) (by decide) (by decide) (by decide)
  have c3 := kk 3 (by decide) (by decide) (by decide) (by decide) (by decide)
  have c4 := kk 4 (by decide) (by decide) (by decide) (by decide) (by decide)
  have c8 := kk 8 (by decide) (by decide) (by decide) (by decide) (by decide)
  have c0 := kk 0 (by decide) (by decide) (by decide) (by decide) (by decide)
  -- what is there still
  have back : ∀ {e y}, e < 64 → ¬ y = (0 : Int32) → V' 1 e = y → V 1 e = y ∧ ¬ ofB U V (nI v) e = true := fun {e y} he hy q => by
    by_cases z : ofB U V (nI v) e = true
    · rw [(a1 e he).1 z] at q
      exact absurd q.symm hy
    · rw [(a1 e he).2 z] at q
      exact ⟨q, z⟩
  have back0 : ∀ {e}, e < 64 → ¬ V' 1 e = 0 → ¬ V 1 e = 0 ∧ ¬ ofB U V (nI v) e = true := fun {e} he q => by
    by_cases z : ofB U V (nI v) e = true
    · exact absurd ((a1 e he).1 z) q
    · rw [(a1 e he).2 z] at q
      exact ⟨q, z⟩
  have stay : ∀ {e}, e < 64 → ¬ ofB U V (nI v) e = true → V' 1 e = V 1 e := fun {e} he q => (a1 e he).2 q
  -- a root of another volume
  have rvl : ∀ {f w r : Nat}, f < 64 → V 1 f = 1 → V 4 f = nI r → r < n → U 1 r = nI w → vl U V f = nI w := fun {f w r} hf h1 h4 hr hw => by
    unfold vl
    rw [h4, if_neg (nI_m1 (by omega)), ix_nI (by omega)]
    exact hw
  have cvs : ∀ w f, w < 3 → f < 64 → V 10 w = nI f → ¬ ofB U V (nI v) f = true := fun w f hw hf q z => by
    have z0 := nb f hf z
    have : 0 < hcV V f := cnt_pos (i := w) (Nat.zero_le _) (by omega) (by simp [q])
    omega
  have kid : ∀ {e p : Nat}, e < 64 → V 1 e = 1 → p < 64 → V 2 e = nI p → ¬ ofB U V (nI v) e = true → ¬ ofB U V (nI v) p = true := fun {e p} he h1 hp h2 q z => by
    have := vl_par hN hM he h1 hp h2
    exact q (ofB_t.mpr ⟨by rw [h1]; exact i10, this.1.trans (ofB_t.mp z).2⟩)
  refine ⟨hN, ⟨?_, ?_, ?_, ?_, ?_, ?_, ?_, ?_, ?_, ?_, ?_, ?_⟩, ⟨?_, by have := i.Z.tT; omega, h30, ?_, ?_, ?_⟩, ?_, ?_, ?_⟩
  · intro e he
    by_cases z : ofB U V (nI v) e = true
    · exact Or.inl ((a1 e he).1 z)
    · rw [(a1 e he).2 z]; exact hM.st e he
  · rw [a9, if_neg (by omega)]; exact hM.r0
  · rw [a10, if_neg (by omega)]; exact hM.o0
  · intro w hw
    rw [a9, a10]
    by_cases z : w = v
    · rw [if_pos z, if_pos z]; exact Or.inl ⟨rfl, rfl⟩
    · rw [if_neg z, if_neg z]
      rcases hM.rt w hw with y | ⟨y1, r, y2, y3, y4, y5, y6⟩
      · exact Or.inl y
      · obtain ⟨v', rn, q1, q2, q3, q4, q5, q6, q7, q8, q9⟩ := hM.rn hN y2 y4 y5
        obtain ⟨rn', s1, s2, s3, s4, s5⟩ := hN.rts w y1
        have e2 : rn = rn' := (nI_eq (by omega) (by omega)).mp (q5.symm.trans (y6.trans s2))
        subst e2
        have nr : ¬ ofB U V (nI v) r = true := fun x => by
          have := rvl y2 y4 q5 q4 s5
          have := (ofB_t.mp x).2.symm.trans this
          exact z ((nI_eq (by omega) (by omega)).mp this).symm
        exact Or.inr ⟨y1, r, y2, y3, by rw [stay y2 nr]; exact y4, by rw [c2]; exact y5, by rw [c4]; exact y6⟩
  · intro w w1 hw q
    rw [a9] at q
    by_cases z : w = v
    · rw [if_pos z] at q; exact absurd rfl q
    · rw [if_neg z] at q
      obtain ⟨f, f1, f2, f3, f4, f5⟩ := hM.ov w w1 hw q
      have nf := cvs w f hw f1 f2
      exact ⟨f, f1, by rw [a10, if_neg z]; exact f2, by rw [stay f1 nf]; exact f3, by rw [c2]; exact f4, by rw [c4]; exact f5⟩
  · intro w w' hw hw' q1 q2
    rw [a10] at q1 q2
    rw [a10] at q2
    by_cases z : w = v
    · rw [if_pos z] at q1; exact absurd rfl q1
    · rw [if_neg z] at q1 q2
      by_cases z' : w' = v
      · rw [if_pos z'] at q2; exact absurd q2 q1
      · rw [if_neg z'] at q2
        exact hM.oi w w' hw hw' q1 q2
  · obtain ⟨ρ, hρ⟩ := hM.vr
    refine ⟨ρ, fun w f k u w1 hw hf q1 q2 => ?_⟩
    rw [a10] at q1
    rw [c4] at q2
    by_cases z : w = v
    · rw [if_pos z] at q1
      exact absurd q1.symm (nI_m1 (by omega))
    · rw [if_neg z] at q1
      exact hρ w f k u w1 hw hf q1 q2
  · intro e he q1 q2
    obtain ⟨h1, hn⟩ := back he i10 q1
    rw [c2] at q2
    obtain ⟨w, w3, hw⟩ := hM.ro e he h1 q2
    refine ⟨w, w3, ?_⟩
    rw [a9, if_neg (fun z => ?_)]
    · exact hw
    · subst z
      obtain ⟨v', rn, p1, p2, p3, p4, p5, p6, p7, p8, p9⟩ := hM.rn hN he h1 q2
      rcases hM.rt w w3 with ⟨y, _⟩ | ⟨y1, r, y2, y3, y4, y5, y6⟩
      · exact m9 y
      · have : r = e := (nI_eq (by omega) (by omega)).mp (y3.symm.trans hw)
        subst this
        obtain ⟨rn', s1, s2, s3, s4, s5⟩ := hN.rts w y1
        exact hn (ofB_t.mpr ⟨by rw [h1]; exact i10, rvl he h1 (y6.trans s2) s1 s5⟩)
  · intro e he q1 q2
    obtain ⟨h1, hn⟩ := back he i10 q1
    rw [c2] at q2
    obtain ⟨p, p1, p2, p3, p4, p5⟩ := hM.ch e he h1 q2
    have np := kid he h1 p1 p2 hn
    exact ⟨p, p1, by rw [c2]; exact p2, by rw [stay p1 np]; exact p3, by rw [c4]; exact p4, by rw [c4, c3]; exact p5⟩
  · intro e he q1
    obtain ⟨h1, hn⟩ := back he i20 q1
    rw [c2, c4]
    exact hM.go e he h1
  · intro e f he hf q1 q2
    rw [c2, c3]
    exact hM.sb e f he hf (back he i10 q1).1 (back hf i10 q2).1
  · intro e f he hf q1 q2
    rw [c4]
    exact hM.nd e f he hf (back0 he q1).1 (back0 hf q2).1
  · rw [c0]; exact i.Z.tk
  · intro e he q
    rw [c8]
    exact i.Z.bi e he (back0 he q).1
  · intro e he q
    obtain ⟨c, d1, d2⟩ := i.Z.co e he (back0 he q).1
    rw [a6]
    by_cases z : e = o
    · rw [if_pos z, ← z, d1]
      exact ⟨c + 1, nI_1 c, by omega⟩
    · rw [if_neg z]
      exact ⟨c, d1, by omega⟩
  · exact ⟨by rw [c0]; exact i.Z.li, i.Z.tri.le (by rw [c0]) (fun k hk q => (back0 hk q).1) (Nat.le_refl _)⟩
  · have hcc : ∀ f, f < 64 → ¬ ofB U V (nI v) f = true → hc V' H W f + (if f = o then 1 else 0) = hc V H W f := by
      intro f hf q
      have c1 : hcC V' f = hcC V f := cnt_cong (fun j _ hj => by
        rw [c2]
        by_cases z : ofB U V (nI v) j = true
        · have j1 := g j (by omega) z
          have : ¬ V 2 j = nI f := fun y => q (by
            have := vl_par hN hM (show j < 64 by omega) j1 hf y
            exact ofB_t.mpr ⟨by rw [this.2]; exact i10, this.1.symm.trans (ofB_t.mp z).2⟩)
          simp [this]
        · rw [(a1 j (by omega)).2 z])
      have c2' : hcV V' f + (if f = o then 1 else 0) = hcV V f := by
        have := cnt_one (P := fun w => decide (V 10 w = nI f)) (P' := fun w => decide (V' 10 w = nI f)) (e := v) (n := 3) (k := 0) (Nat.zero_le _) (by omega) (fun w _ _ y => by
          show decide (V' 10 w = nI f) = decide (V 10 w = nI f)
          rw [a10, if_neg y])
        have p0 : (if decide (V' 10 v = nI f) = true then 1 else 0) = 0 := by
          rw [a10, if_pos rfl, if_neg]
          simp only [decide_eq_true_eq]
          exact fun y => nI_m1 (show f < 2 ^ 31 by omega) y.symm
        have p1 : (if decide (V 10 v = nI f) = true then 1 else 0) = if f = o then 1 else 0 := by
          rw [ho]
          by_cases y : f = o
          · rw [if_pos y, y]; simp
          · rw [if_neg y, if_neg]
            simp only [decide_eq_true_eq]
            exact fun w => y ((nI_eq (by omega) (by omega)).mp w).symm
        have this : hcV V' f + (if decide (V 10 v = nI f) = true then 1 else 0) = hcV V f + (if decide (V' 10 v = nI f) = true then 1 else 0) := this
        rw [p0, p1] at this
        exact this
      unfold hc
      rw [c1]
      omega
    intro f hf
    refine ⟨fun _ => rfl, Nat.zero_le _, fun q => ?_⟩
    obtain ⟨q1, q2⟩ := back0 hf q
    obtain ⟨m1, m2⟩ := (i.L f hf).2.2 q1
    simp only [Nat.add_zero] at m1 m2 ⊢
    have e := hcc f hf q2
    rw [a5 f hf q2, stay hf q2]
    by_cases z : f = o
    · rw [if_pos z] at e ⊢
      rw [← z, m1, ← e]
      refine ⟨by rw [show nI (hc V' H W f + 1) - 1 = nI (hc V' H W f + 1 - 1) from nI_sub (b := 1) (by omega), Nat.add_sub_cancel], fun y => ?_⟩
      rw [z, o1] at y
      exact absurd y (by decide)
    · rw [if_neg z] at e ⊢
      rw [Nat.add_zero] at e
      rw [e]
      exact ⟨m1, m2⟩
  · intro k hk
    rcases i.H k hk with z | ⟨e, e1, e2, e3, e4⟩
    · exact Or.inl z
    · have ne : ¬ ofB U V (nI v) e = true := fun z => by
        have z0 := nb e e1 z
        have : 0 < hcH H e := cnt_pos (i := k) (Nat.zero_le _) (by omega) (by simp [e2])
        omega
      exact Or.inr ⟨e, e1, e2, by rw [stay e1 ne]; exact e3, by rw [c4]; exact e4⟩
  · intro k hk q
    obtain ⟨m, d, l, r, hr, hw⟩ := i.W k hk q
    refine ⟨m, d, l, r, hr, hw.m, hw.d, hw.l, hw.r, hw.m1, hw.md, hw.dl, hw.l12, hw.r3, fun j hj => ?_⟩
    obtain ⟨e, e64, be, ⟨bb, cc, g1, g2, g3, g4, g5⟩, g6⟩ := (hw.wy j hj).ex
    refine ⟨e, e64, be, ⟨bb, cc, g1, g2, g3, by omega, fun y1 y2 => ?_⟩, fun y => ?_⟩
    · obtain ⟨y3, y4⟩ := back0 e64 y1
      rw [c8] at y2
      obtain ⟨c2, k1, k2, k3, k4⟩ := g5 y3 y2
      rw [a6, c4, stay e64 y4]
      by_cases z : e = o
      · rw [if_pos z, ← z, k1]
        exact ⟨c2 + 1, nI_1 c2, by omega, by omega, fun w => by omega⟩
      · rw [if_neg z]
        exact ⟨c2, k1, k2, by omega, k4⟩
    · obtain ⟨g7, g8⟩ := g6 y
      have ne : ¬ ofB U V (nI v) e = true := fun z => by
        have z0 := nb e e64 z
        have hk0 : 0 < hcK (W k) e := by
          unfold hcK
          rw [if_neg (fun w => w.elim q y), hw.m, ix_nI (by have := hw.md; have := hw.dl; have := hw.l12; omega)]
          exact cnt_pos (i := j) (Nat.zero_le _) (by omega) (by simp [be])
        have : hcW W e = 0 := by omega
        have := sm_z this k (Nat.zero_le _) (by omega)
        omega
      exact ⟨by rw [stay e64 ne]; exact g7, by rw [c4]; exact g8⟩
theorem CntI.unm {U : NodV} {V V' : MemV} {H : OneV} {W : WkV} {n vol t T v o : Nat} (C : CntI V) (i : Inv U V H W n vol t T (fun _ => 0)) (v1 : 1 ≤ v) (v3 : v < 3) (m9 : ¬ V 9 v = -1) (u : UnV U V v o V') : CntI V' := by
  obtain ⟨kk, a1, a5, a6, a9, a10⟩ := u
  have hN := i.N
  have n60 := hN.n60
  rcases i.M.rt v v3 with ⟨y, _⟩ | ⟨y1, r, y2, y3, y4, y5, y6⟩
  · exact absurd y m9
  · obtain ⟨rn, s1, s2, s3, s4, s5⟩ := hN.rts v y1
    have ro : ofB U V (nI v) r = true := ofB_t.mpr ⟨by rw [y4]; exact i10, by
      unfold vl
      rw [y6, s2, if_neg (nI_m1 (by omega)), ix_nI (by omega)]
      exact s5⟩
    unfold CntI at C ⊢
    have p1 : cnt (fun k => decide (¬ V' 1 k = 0)) 0 64 + 1 ≤ cnt (fun k => decide (¬ V 1 k = 0)) 0 64 := by
      have m := cnt_mono (P := fun k => decide (¬ V' 1 k = 0)) (P' := fun k => if k = r then false else decide (¬ V 1 k = 0)) (n := 64) (k := 0) (fun k _ hk q => by
        simp only [decide_eq_true_eq] at q
        by_cases z : k = r
        · subst z
          exact absurd ((a1 k y2).1 ro) q
        · show (if k = r then false else decide (¬ V 1 k = 0)) = true
          rw [if_neg z]
          by_cases w : ofB U V (nI v) k = true
          · exact absurd ((a1 k (by omega)).1 w) q
          · rw [(a1 k (by omega)).2 w] at q
            simp [q])
      have one := cnt_one (P := fun k => decide (¬ V 1 k = 0)) (P' := fun k => if k = r then false else decide (¬ V 1 k = 0)) (e := r) (n := 64) (k := 0) (Nat.zero_le _) (by omega) (fun k _ _ z => if_neg z)
      have q1 : (if decide (¬ V 1 r = 0) = true then 1 else 0) = 1 := by rw [y4]; rfl
      have q2 : (if (if r = r then false else decide (¬ V 1 r = 0)) = true then 1 else 0) = 0 := by rw [if_pos rfl]; rfl
      rw [q1, q2] at one
      omega
    have p2 : cnt (fun w => decide (¬ V' 9 w = -1)) 1 2 + 1 = cnt (fun w => decide (¬ V 9 w = -1)) 1 2 := by
      have one := cnt_one (P := fun w => decide (¬ V 9 w = -1)) (P' := fun w => decide (¬ V' 9 w = -1)) (e := v) (n := 2) (k := 1) v1 (by omega) (fun w _ _ z => by
        show decide (¬ V' 9 w = -1) = decide (¬ V 9 w = -1)
        rw [a9, if_neg z])
      have q1 : (if decide (¬ V 9 v = -1) = true then 1 else 0) = 1 := by rw [if_pos (by simp [m9])]
      have q2 : (if decide (¬ V' 9 v = -1) = true then 1 else 0) = 0 := by
        rw [a9, if_pos rfl]
        rfl
      rw [q1, q2] at one
      omega
    omega
theorem Rel.unm {U : NodV} {V V' : MemV} {H : OneV} {W : WkV} {D D' : RowV} {n vol t T v o : Nat} (r : Rel none U V H W D n) (i : Inv U V H W n vol t T (fun _ => 0)) (v3 : v < 3) (ho : V 10 v = nI o) (o64 : o < 64) (u : UnV U V v o V') (dh : ∀ e, e < 128 → D' (701 + 9 * e + 0) = if e < 64 ∧ ofB U V (nI v) e = true then 0 else D (701 + 9 * e + 0)) (d7 : D' (701 + 9 * o + 7) = -1) (d4 : D' (701 + 9 * o + 4) = D (701 + 9 * o + 4) + 1) (d5 : D' (5 + v) = -1) (d8 : D' (8 + v) = -1) (dd : ∀ j, j ≠ 5 + v → j ≠ 8 + v → j ≠ 701 + 9 * o + 7 → j ≠ 701 + 9 * o + 4 → (∀ e, e < 128 → j ≠ 701 + 9 * e + 0) → D' j = D j) : Rel none U V' H W D' n := by
  obtain ⟨kk, a1, a5, a6, a9, a10⟩ := u
  have n60 := i.N.n60
  have c2 := kk 2 (by decide) (by decide) (by decide) (by decide) (by decide)
  have c3 := kk 3 (by decide) (by decide) (by decide) (by decide) (by decide)
  have c4 := kk 4 (by decide) (by decide) (by decide) (by decide) (by decide)
  have c7 := kk 7 (by decide) (by decide) (by decide) (by decide) (by decide)
  have c8 := kk 8 (by decide) (by decide) (by decide) (by decide) (by decide)
  have c0 := kk 0 (by decide) (by decide) (by decide) (by decide) (by decide)
  have b := r.B
  refine r.fr ⟨?_, ?_, ?_, ?_, ?_, ?_, ?_, ?_, ?_, ?_, ?_⟩ (fun j h1 h2 => dd j (by omega) (by omega) (by omega) (by omega) (fun e _ => by omega)) (fun k z => by cases z)
  · rw [dd _ (by omega) (by omega) (by omega) (by omega) (fun e _ => by omega), c0]; exact b.tk
  · rw [dd _ (by omega) (by omega) (by omega) (by omega) (fun e _ => by omega), c0]; exact b.lo
  · rw [dd _ (by omega) (by omega) (by omega) (by omega) (fun e _ => by omega), c0]; exact b.tr
  · rw [dd _ (by omega) (by omega) (by omega) (by omega) (fun e _ => by omega), c0]; exact b.rm
  · rw [dd _ (by omega) (by omega) (by omega) (by omega) (fun e _ => by omega)]; exact b.ev
  · intro w hw
    rw [a9]
    by_cases z : w = v
    · rw [if_pos z, z]; exact d5
    · rw [if_neg z, dd _ (by omega) (by omega) (by omega) (by omega) (fun e _ => by omega)]; exact b.rt w hw
  · intro w hw
    rw [a10]
    by_cases z : w = v
    · rw [if_pos z, z]; exact d8
    · rw [if_neg z, dd _ (by omega) (by omega) (by omega) (by omega) (fun e _ => by omega)]; exact b.ov w hw
  · intro j hj
    rw [dd _ (by omega) (by omega) (by omega) (by omega) (fun e _ => by omega)]; exact b.ha j hj
  · intro j hj
    rw [dd _ (by omega) (by omega) (by omega) (by omega) (fun e _ => by omega), dd _ (by omega) (by omega) (by omega) (by omega) (fun e _ => by omega), dd _ (by omega) (by omega) (by omega) (by omega) (fun e _ => by omega), dd _ (by omega) (by omega) (by omega) (by omega) (fun e _ => by omega), dd _ (by omega) (by omega) (by omega) (by omega) (fun e _ => by omega)]
    exact b.nd j hj
  · intro f hf
    rw [dh f hf, b.th f hf]
    by_cases c : f < 64
    · by_cases z : ofB U V (nI v) f = true
      · rw [if_pos ⟨c, z⟩, if_neg (fun w => w.2 ((a1 f c).1 z))]
      · rw [if_neg (fun w => z w.2), (a1 f c).2 z]
    · rw [if_neg (fun w => c w.1), if_neg (fun w => c w.1), if_neg (fun w => c w.1)]
  · intro f hf q
    have nf : ¬ ofB U V (nI v) f = true := fun z => q ((a1 f hf).1 z)
    have f0 : ¬ V 1 f = 0 := by rw [← (a1 f hf).2 nf]; exact q
    obtain ⟨e1, e2, e3, e4, e5, e6, e7, e8⟩ := b.en f hf f0
    have x : ∀ j, j = 1 ∨ j = 2 ∨ j = 3 ∨ j = 5 ∨ j = 6 ∨ j = 8 → D' (701 + 9 * f + j) = D (701 + 9 * f + j) := fun j hj => dd _ (by omega) (by omega) (by omega) (by omega) (fun e _ => by omega)
    rw [x 1 (by omega), x 2 (by omega), x 3 (by omega), x 5 (by omega), x 6 (by omega), x 8 (by omega), c2, c3, c4, c7, c8, a6, (a1 f hf).2 nf]
    refine ⟨e1, e2, e3, ?_, e5, e6, ?_, e8⟩
    · by_cases z : f = o
      · rw [if_pos z, z, d4, ← z, e4]
      · rw [if_neg z, dd _ (by omega) (by omega) (by omega) (by omega) (fun e _ => by omega)]; exact e4
    · have ne : ¬ nI f = -1 := nI_m1 (by omega)
      have cq : ∀ V0 : MemV, q_X1_coveringVolume V0 (nI f) = oI (fst? (fun w => decide (V0 10 w = nI f)) 0 3) := fun V0 => by
        unfold q_X1_coveringVolume ql_X1_coveringVolume
        have : f_X1_coveringVolume V0 (nI f) = fst? (fun w => decide (V0 10 w = nI f)) 0 3 := by
          unfold f_X1_coveringVolume
          refine fst_cong (fun k _ _ => ?_)
          rw [if_neg ne]
          by_cases z : V0 10 k = nI f
          · simp [z]
          · simp [z]
        rw [this]
      by_cases z : f = o
      · rw [z, d7, ← z, cq V', fst_no (fun w _ hw => ?_)]
        · rfl
        · simp only [decide_eq_false_iff_not]
          rw [a10]
          by_cases y : w = v
          · rw [if_pos y]
            exact fun s => ne s.symm
          · rw [if_neg y]
            intro s
            exact y (i.M.oi w v (by omega) v3 (by rw [s]; exact ne) (s.trans (by rw [z]; exact ho.symm)))
      · rw [dd _ (by omega) (by omega) (by omega) (by omega) (fun e _ => by omega), e7, cq V, cq V']
        congr 1
        refine fst_cong (fun w _ hw => ?_)
        rw [a10]
        by_cases y : w = v
        · have n1 : ¬ V 10 w = nI f := fun s => by
            rw [y, ho] at s
            exact z ((nI_eq (by omega) (by omega)).mp s).symm
          have n2 : ¬ (-1 : Int32) = nI f := fun s => ne s.symm
          rw [if_pos y]
          simp [n1, n2]
        · rw [if_neg y]

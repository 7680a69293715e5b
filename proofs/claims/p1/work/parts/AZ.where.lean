/-! Where a path comes to: the walk of entries beside the walk of nodes. -/
theorem reach_4 {U : NodV} {V : MemV} (C : CntI V) (x nm : Int32) {f : Nat} (h1 : ¬ V 1 f = 0) : gV_X1_reach U V x nm 4 f = V 4 f := by
  unfold gV_X1_reach
  by_cases a : q_X1_find V x nm = -1
  · rw [if_pos a]
    obtain ⟨e, lu⟩ := lu_ex C.le
    have e0 := (lu_some lu).2.1
    have fe : f ≠ e := fun z => h1 (by rw [z]; exact e0)
    have a4 : ∀ x3, gV_X1_add V x nm x3 4 f = V 4 f := fun x3 => by rw [ad_4 lu, if_neg fe]
    by_cases b : q_X1_add V x nm (q_X2_find U (q_X1_nodeOf V x) nm) = -1
    · rw [if_pos b]
      exact a4 _
    · rw [if_neg b]
      have ts : ∀ B b, Tsm B (gV_X1_shrink B b) := fun B b => shrink_tsm _ _ _ _ B
      rw [(ts _ _).1 4 (by decide) (by decide) (by decide), uv_k _ _ _ _ _ (by decide)]
      exact a4 _
  · rw [if_neg a, cT_k _ _ _ (by decide) (by decide) (by decide)]
theorem up_4 (V : MemV) (x : Int32) : gV_X1_stepUp V x 4 = V 4 := by
  have c : ∀ (B : MemV) (y : Int32), gV_X1_comeTo B y 4 = B 4 := fun B y => cT_k _ _ _ (by decide) (by decide) (by decide)
  unfold gV_X1_stepUp
  split
  · rfl
  · split
    · split
      · rfl
      · split
        · rfl
        · exact c _ _
    · split
      · exact c _ _
      · split
        · exact c _ _
        · rw [c, c]
theorem step_4 {U : NodV} {V : MemV} (C : CntI V) (x s : Int32) {f : Nat} (h1 : ¬ V 1 f = 0) : gV_X1_stepFrom U V x s 4 f = V 4 f := by
  have t4 : ∀ f, uv V 0 16 0 4 f = V 4 f := fun f => by rw [uv_k _ _ _ _ _ (by decide)]
  have r4 : gV_X1_reach U (uv V 0 16 0) x s 4 f = V 4 f := by
    rw [reach_4 (V := uv V 0 16 0) C.tzi x s (by rw [uv_k _ _ _ _ _ (by decide)]; exact h1), t4]
  unfold gV_X1_stepFrom
  split
  · exact t4 f
  · split
    · rw [up_4]; exact t4 f
    · split
      · exact t4 f
      · split
        · exact r4
        · split
          · exact r4
          · split
            · exact r4
            · split
              · rw [cT_k _ _ _ (by decide) (by decide) (by decide)]; exact r4
              · exact r4
def Wnd (V0 V : MemV) : Prop := V 9 = V0 9 ∧ V 10 = V0 10 ∧ ∀ v o, v < 3 → o < 64 → V0 10 v = nI o → V 4 o = V0 4 o
/-- the volume over a node -/
theorem w_volumeOver {U : NodV} {V0 : MemV} {H : OneV} {W : WkV} {n vol t T : Nat} {J : MJ} (h : RefL J) (Y : MI) (r0 : Rel none U V0 H W (Y 194) n) (i0 : Inv U V0 H W n vol t T (fun _ => 0)) (y11 : Y 188 11 = nI vol) (x : Int32) : M_X10_volumeOver [mR (some 188), mI x] (Y, J) = some (some (mI (oI (fst? (fun v => decide (¬ V0 9 v = -1 ∧ V0 4 (ix (V0 10 v)) = x)) 1 (vol - 1)))), (Y, J)) := by
  have v3 := i0.N.v3
  have loop : ∀ (nn k : Nat), 1 ≤ k → k + nn = vol → Ev T_X10_volumeOver 2 [some (mR (some 188)), some (mI x), some (mI (nI k))] [] (Y, J) = some (some (mI (oI (fst? (fun v => decide (¬ V0 9 v = -1 ∧ V0 4 (ix (V0 10 v)) = x)) k nn))), (Y, J)) := by
    intro nn
    induction nn with
    | zero =>
      intro k k1 hk
      rw [E_X10_volumeOver_2]
      simp only [h.fi, y11, Option.bind_some, if_pos (nI_le (show vol ≤ k by omega) (by omega))]
      rfl
    | succ nn ih =>
      intro k k1 hk
      rw [E_X10_volumeOver_2]
      have e5 : (5 : Int32) + nI k = nI (5 + k) := nI_add 5 k
      have e8 : (8 : Int32) + nI k = nI (8 + k) := nI_add 8 k
      simp only [h.fi, y11, Option.bind_some, if_neg (nI_ge (show k < vol by omega) (by omega)), h.f18, h.ldD _ e5 (show 5 + k < 1853 by omega), h.ldD _ e8 (show 8 + k < 1853 by omega), r0.B.rt k (by omega), r0.B.ov k (by omega), nI_1, h.kt, if_true]
      have st : fst? (fun v => decide (¬ V0 9 v = -1 ∧ V0 4 (ix (V0 10 v)) = x)) k (nn + 1) = if decide (¬ V0 9 k = -1 ∧ V0 4 (ix (V0 10 k)) = x) = true then some k else fst? (fun v => decide (¬ V0 9 v = -1 ∧ V0 4 (ix (V0 10 v)) = x)) (k + 1) nn := rfl
      rw [st]
      by_cases m9 : V0 9 k = -1
      · rw [if_pos m9, if_neg (by simp [m9])]
        exact ih (k + 1) (by omega) (by omega)
      · obtain ⟨o, o64, ho, o1, _, _⟩ := i0.M.ov k (by omega) (by omega) m9
        rw [if_neg m9, ho, ix64 o64]
        simp only [w_its h _ 3 (show (3 : Int32) = nI 3 from rfl) (show o < 128 by omega) (by decide), Option.bind_some, asI_I, (r0.B.en o o64 (by rw [o1]; exact i10)).2.2.1]
        by_cases z : V0 4 o = x
        · rw [if_pos z, if_pos (by simp [m9, z])]
          rfl
        · rw [if_neg z, if_neg (by simp [z])]
          exact ih (k + 1) (by omega) (by omega)
  rw [E_X10_volumeOver]
  exact loop (vol - 1) 1 (Nat.le_refl _) (by omega)
/-- an entry's node is in its parent's -/
theorem MemI.up {U : NodV} {V : MemV} {n vol : Nat} (hM : MemI U V n vol) (hN : NodI U n vol) {e k : Nat} (he : e < 64) (h1 : V 1 e = 1) (h2 : ¬ V 2 e = -1) (h4 : V 4 e = nI k) (kn : k < n) : ∃ p kp, p < 64 ∧ V 2 e = nI p ∧ V 1 p = 1 ∧ kp < n ∧ V 4 p = nI kp ∧ U 2 k = nI kp ∧ U 3 k = V 3 e ∧ ¬ U 4 k = 0 ∧ U 4 kp = 2 := by
  have n60 := hN.n60
  obtain ⟨p, p1, p2, p3, p4, p5⟩ := hM.ch e he h1 h2
  obtain ⟨kp, k1, k2, k3⟩ := hN.fo p4
  rcases hN.fd (V 4 p) (V 3 e) with ⟨z, _⟩ | ⟨j, j1, j2, j3, j4, j5⟩
  · rw [z, h4] at p5
    exact absurd p5 (nI_m1 (by omega))
  · have jk : j = k := (nI_eq (by omega) (by omega)).mp (j2.symm.trans (p5.symm.trans h4))
    subst jk
    exact ⟨p, kp, p1, p2, p3, k1, k2, j4.trans k2, j5, j3, k3⟩
theorem where_step {U : NodV} {V0 V : MemV} {H : OneV} {W : WkV} {D' : RowV} {n vol t t0 T T0 : Nat} {J : MJ} (h : RefL J) (Y : MI) (r0 : Rel none U V0 H W (Y 194) n) (i0 : Inv U V0 H W n vol t0 T0 (fun _ => 0)) (y11 : Y 188 11 = nI vol) (r : Rel none U V H W D' n) (i : Inv U V H W n vol t T (fun _ => 0)) (C : CntI V) (w : Wnd V0 V) {a k : Nat} (ha : At V a) (hk : V 4 a = nI k) (kn : k < n) {s y : Int32} (hs : NmS s y) (tT : t + 2 ≤ T) : ∃ rr, M_X10_nodeBy [mR (some 188), mI (nI k), mI y] (Y, J) = some (some (mI rr), (Y, J)) ∧ ((∃ a' k', q_X1_stepFrom U V (nI a) s = nI a' ∧ At (gV_X1_stepFrom U V (nI a) s) a' ∧ gV_X1_stepFrom U V (nI a) s 4 a' = nI k' ∧ k' < n ∧ rr = nI k') ∨ (q_X1_stepFrom U V (nI a) s = rr ∧ (rr = -2 ∨ rr = -3))) ∧ ∃ D'' t', Rel none U (gV_X1_stepFrom U V (nI a) s) H W D'' n ∧ Inv U (gV_X1_stepFrom U V (nI a) s) H W n vol t' T (fun _ => 0) ∧ CntI (gV_X1_stepFrom U V (nI a) s) ∧ Wnd V0 (gV_X1_stepFrom U V (nI a) s) ∧ t' ≤ t + 2 := by
  have n60 := i.N.n60
  have v3 := i.N.v3
  have hN := i.N
  -- the reference walks beside it, for what holds
  obtain ⟨D1, G1, c1, how, t', tl, _, s2, s3, s4, s5⟩ := r.tzi.steps0 i C (fun e _ q => absurd rfl q) h (fun _ _ => -1) (Or.inl ⟨rfl, fun _ => rfl⟩) rfl (fun _ => 0) (TlI.none _ _ _) ha hs tT
  obtain ⟨q1, q2, q3, q4, q9, q10, q11, _⟩ := s2
  have w' : Wnd V0 (gV_X1_stepFrom U V (nI a) s) := ⟨q9.trans w.1, q10.trans w.2.1, fun v o hv ho q => by
    have o1 : V 1 o = 1 := (i.M.ok hv ho (by rw [w.2.1]; exact q)).2.2.1
    rw [step_4 C _ _ (by rw [o1]; exact i10)]
    exact w.2.2 v o hv ho q⟩
  have tail : ∃ D'' t', Rel none U (gV_X1_stepFrom U V (nI a) s) H W D'' n ∧ Inv U (gV_X1_stepFrom U V (nI a) s) H W n vol t' T (fun _ => 0) ∧ CntI (gV_X1_stepFrom U V (nI a) s) ∧ Wnd V0 (gV_X1_stepFrom U V (nI a) s) ∧ t' ≤ t + 2 := ⟨D1, t', q1, q2, q3, w', s4⟩
  obtain ⟨k', kn', hk', kne⟩ := i.M.nk i.N ha
  have kne : ¬ U 4 k = 0 := by
    have : k' = k := (nI_eq (by omega) (by omega)).mp (hk'.symm.trans hk)
    rw [← this]; exact kne
  have nd := r0.B.nd k kn
  have nh : ∀ f, f < 5 → ∀ z : Int32, z = nI f → M_X10_nodeHas [mR (some 188), mI (nI k), mI z] (Y, J) = some (some (mI (Y 194 (401 + 5 * k + f))), (Y, J)) := fun f hf z hz => w_nodeHas h Y f hz (by omega) hf
  have a64 := ha.1
  have a0 : ¬ V 1 a = 0 := by rw [ha.2.1]; exact i10
  have e0 : uv V 0 16 0 = tz V := rfl
  rcases hs with hn | ⟨s1, y1⟩ | ⟨s1, y1⟩
  · -- a name
    obtain ⟨g1, g2⟩ := hn.gt
    have isq : q_X1_isFolder U (tz V) (nI a) = if U 4 k = 2 then 1 else 0 := by
      rw [isF_q a64 (by rw [tz_k V 1 (by decide)]; exact a0), tz_k V 4 (by decide), hk, fo_nI hN kn]
      by_cases z : U 4 k = 2
      · rw [if_pos z, if_neg i10]
      · rw [if_neg z, if_pos rfl]
    rw [E_X10_nodeBy, if_neg (i32_gt_ne g2).1, if_neg (i32_gt_ne g2).2.1]
    simp only [h.kt, if_true, nh 1 (by decide) 1 rfl, Option.bind_some, asI_I, nd.2.2.2.2 kne]
    by_cases fo : U 4 k = 2
    · rw [if_pos fo] at isq ⊢
      rw [if_neg i10]
      have ev : Y 194 4 = nI n := r0.B.ev.trans hN.ev
      have pf : ¬ q_X2_isFolder U (tz V 4 a) = 0 := by rw [tz_k V 4 (by decide), hk, fo_nI hN kn, if_pos fo]; exact i10
      obtain ⟨D2, G2, e, _, c2, e64, c3, c4, c5, c6, c7, c8, c9⟩ := r.tzi.childOf i.tzi C.tzi (fun e _ q => absurd rfl q) h (fun _ _ => -1) (Or.inl ⟨rfl, fun _ => rfl⟩) rfl (fun _ => 0) 0 (TlI.none _ _ _) a64 ha.tzi.2.1 pf hn (by omega)
      have qe : q_X1_stepFrom U V (nI a) s = if gV_X1_reach U (tz V) (nI a) s 4 e = -1 then -2 else if q_X1_coveringVolume (gV_X1_reach U (tz V) (nI a) s) (nI e) < 0 then nI e else if q_X1_coveringVolume (gV_X1_reach U (tz V) (nI a) s) (nI e) < 3 then gV_X1_comeTo (gV_X1_reach U (tz V) (nI a) s) (gV_X1_reach U (tz V) (nI a) s 9 (ix (q_X1_coveringVolume (gV_X1_reach U (tz V) (nI a) s) (nI e)))) 9 (ix (q_X1_coveringVolume (gV_X1_reach U (tz V) (nI a) s) (nI e))) else nI e := by
        unfold q_X1_stepFrom
        rw [e0, if_neg (i32_gt_ne g1).1, if_neg (i32_gt_ne g1).2.1, isq, if_neg i10, c2, Inv.isE e64 (by rw [c4]; exact i10), if_neg i10, ix64 e64]
      have ge : gV_X1_stepFrom U V (nI a) s = if gV_X1_reach U (tz V) (nI a) s 4 e = -1 then gV_X1_reach U (tz V) (nI a) s else if q_X1_coveringVolume (gV_X1_reach U (tz V) (nI a) s) (nI e) < 0 then gV_X1_reach U (tz V) (nI a) s else if q_X1_coveringVolume (gV_X1_reach U (tz V) (nI a) s) (nI e) < 3 then gV_X1_comeTo (gV_X1_reach U (tz V) (nI a) s) (gV_X1_reach U (tz V) (nI a) s 9 (ix (q_X1_coveringVolume (gV_X1_reach U (tz V) (nI a) s) (nI e)))) else gV_X1_reach U (tz V) (nI a) s := by
        unfold gV_X1_stepFrom
        rw [e0, if_neg (i32_gt_ne g1).1, if_neg (i32_gt_ne g1).2.1, isq, if_neg i10, c2, Inv.isE e64 (by rw [c4]; exact i10), if_neg i10, ix64 e64]
      simp only [w_nodeIn h Y ev n60, r0.eqn hN (nI k) hn, Option.bind_some, asI_I]
      have f4 : q_X2_find U (nI k) s = gV_X1_reach U (tz V) (nI a) s 4 e := by rw [c7, tz_k V 4 (by decide), hk]
      rw [f4]
      obtain ⟨d1, d2, d3, d4, d9, d10, d11, _⟩ := c3
      have o4 : ∀ v o, v < 3 → o < 64 → V0 10 v = nI o → gV_X1_reach U (tz V) (nI a) s 4 o = V0 4 o := fun v o hv ho q => by
        have o1 : V 1 o = 1 := (i.M.ok hv ho (by rw [w.2.1]; exact q)).2.2.1
        rw [reach_4 C.tzi _ _ (by rw [tz_k V 1 (by decide), o1]; exact i10), tz_k V 4 (by decide)]
        exact w.2.2 v o hv ho q
      have r9 : gV_X1_reach U (tz V) (nI a) s 9 = V0 9 := by rw [d9, tz_k V 9 (by decide)]; exact w.1
      have r10 : gV_X1_reach U (tz V) (nI a) s 10 = V0 10 := by rw [d10, tz_k V 10 (by decide)]; exact w.2.1
      generalize gV_X1_reach U (tz V) (nI a) s = V1 at qe ge d2 c4 c5 c6 c7 c8 c9 o4 r9 r10 f4 ⊢
      by_cases ab : V1 4 e = -1
      · rw [if_pos ab] at qe
        rw [if_pos ab]
        exact ⟨-2, rfl, Or.inr ⟨qe, Or.inl rfl⟩, tail⟩
      · rw [if_neg ab] at qe ge
        rw [if_neg ab]
        obtain ⟨ke, k1, k2⟩ := Inv.nod d2.N d2.M e64 (by rw [c4]; exact i10) ab
        simp only [h.kt, if_true, w_volumeOver h Y r0 i0 y11, Option.bind_some, asI_I, k2]
        have ce := cov_q (V := V1) e64
        have eqv : ∀ v, v < 3 → (V1 10 v = nI e ↔ 1 ≤ v ∧ v < vol ∧ ¬ V0 9 v = -1 ∧ V0 4 (ix (V0 10 v)) = nI ke) := fun v hv => by
          rw [r10]
          constructor
          · intro z
            obtain ⟨z1, z2, _⟩ := i0.M.ok hv e64 z
            refine ⟨z1, ?_, z2, ?_⟩
            · rcases i0.M.rt v hv with ⟨y, _⟩ | ⟨y, _⟩
              · exact absurd y z2
              · exact y
            · rw [z, ix64 e64, ← o4 v e hv e64 z]
              exact k2
          · rintro ⟨z1, z2, z3, z4⟩
            obtain ⟨o, o64, ho, o1, _, _⟩ := i0.M.ov v z1 hv z3
            rw [ho, ix64 o64, ← o4 v o hv o64 ho] at z4
            have o1' : V1 1 o = 1 := (d2.M.ok hv o64 (by rw [r10]; exact ho)).2.2.1
            have := d2.M.nd o e o64 e64 (by rw [o1']; exact i10) (by rw [c4]; exact i10) (by rw [z4]; exact nI_m1 (by omega)) (by rw [z4, k2])
            rw [ho, this]
        cases qf : fst? (fun w => decide (V1 10 w = nI e)) 0 3 with
        | none =>
          have fn := fst_none qf
          have rn : fst? (fun v => decide (¬ V0 9 v = -1 ∧ V0 4 (ix (V0 10 v)) = nI ke)) 1 (vol - 1) = none := fst_no (fun v a b => by
            have := fn v (Nat.zero_le _) (by omega)
            simp only [decide_eq_false_iff_not] at this ⊢
            exact fun z => this ((eqv v (by omega)).mpr ⟨a, by omega, z⟩))
          rw [qf] at ce
          rw [ce, if_pos (show oI none < 0 by decide)] at qe ge
          rw [rn, if_pos (show oI none = -1 from rfl)]
          refine ⟨nI ke, rfl, Or.inl ⟨e, ke, qe, ?_, ?_, k1, rfl⟩, tail⟩
          · rw [ge]; exact ⟨e64, c4, ab⟩
          · rw [ge]; exact k2
        | some v =>
          obtain ⟨_, v3', v4, vmin⟩ := fst_some qf
          have v3' : v < 3 := by omega
          have v4 : V1 10 v = nI e := by simpa using v4
          obtain ⟨z1, z2, z3, z4⟩ := (eqv v v3').mp v4
          have rs : fst? (fun v => decide (¬ V0 9 v = -1 ∧ V0 4 (ix (V0 10 v)) = nI ke)) 1 (vol - 1) = some v := fst_is z1 (by omega) (by simp [z3, z4]) (fun j a b => by
            have := vmin j (Nat.zero_le _) b
            simp only [decide_eq_false_iff_not] at this ⊢
            exact fun z => this ((eqv j (by omega)).mpr ⟨a, by omega, z⟩))
          rw [qf] at ce
          have ov : oI (some v) = nI v := rfl
          rw [ov] at ce
          rcases d2.M.rt v v3' with ⟨y, _⟩ | ⟨_, ro, ro64, ro9, ro1, ro2, ro4⟩
          · rw [r9] at y; exact absurd y z3
          rw [ce, if_neg (nI_pos (show v < 2 ^ 31 by omega)), if_pos (show nI v < 3 from nI_lt (b := 3) v3' (by decide)), ix_nI (by omega), ro9] at qe ge
          rw [cT_k _ _ _ (by decide) (by decide) (by decide), ro9] at qe
          obtain ⟨rn, s1, s2, s3, s4, s5⟩ := hN.rts v z2
          have roA : At V1 ro := ⟨ro64, ro1, by rw [ro4, s2]; exact nI_m1 (by omega)⟩
          rw [rs, ov, if_neg (nI_m1 (show v < 2 ^ 31 by omega))]
          have e5 : (5 : Int32) + nI v = nI (5 + v) := nI_add 5 v
          have d5 : Y 194 (5 + v) = nI ro := by rw [r0.B.rt v v3', ← r9]; exact ro9
          have r01 : V0 1 ro = 1 ∧ V0 4 ro = U 5 v := by
            rcases i0.M.rt v v3' with ⟨y, _⟩ | ⟨_, r', a1, a2, a3, _, a5⟩
            · exact absurd y z3
            · have : r' = ro := (nI_eq (by omega) (by omega)).mp (a2.symm.trans (by rw [← r9]; exact ro9))
              subst this
              exact ⟨a3, a5⟩
          have en := r0.B.en ro ro64 (by rw [r01.1]; exact i10)
          simp only [h.f18, Option.bind_some, h.ldD _ e5 (show 5 + v < 1853 by omega), d5, h.kt, if_true, w_its h _ 3 (show (3 : Int32) = nI 3 from rfl) (show ro < 128 by omega) (by decide), asI_I, en.2.2.1, r01.2, s2]
          refine ⟨nI rn, rfl, Or.inl ⟨ro, rn, qe, ?_, ?_, s1, rfl⟩, tail⟩
          · rw [ge]; exact roA.come _
          · rw [ge, cT_k _ _ _ (by decide) (by decide) (by decide), ro4]; exact s2
    · rw [if_neg fo] at isq ⊢
      rw [if_pos rfl]
      have qe : q_X1_stepFrom U V (nI a) s = -3 := by
        unfold q_X1_stepFrom
        rw [e0, if_neg (i32_gt_ne g1).1, if_neg (i32_gt_ne g1).2.1, isq, if_pos rfl]
      exact ⟨-3, rfl, Or.inr ⟨qe, Or.inr rfl⟩, tail⟩
  · subst s1 y1
    have ge : gV_X1_stepFrom U V (nI a) (-1) = tz V := if_pos rfl
    refine ⟨nI k, by rw [E_X10_nodeBy, if_pos rfl], Or.inl ⟨a, k, if_pos rfl, ?_, ?_, kn, rfl⟩, tail⟩
    · rw [ge]; exact ha.tzi
    · rw [ge, tz_k V 4 (by decide)]; exact hk
  · subst s1 y1
    have m2 : ¬ (-2 : Int32) = -1 := by decide
    have qe : q_X1_stepFrom U V (nI a) (-2) = q_X1_stepUp (tz V) (nI a) := by
      unfold q_X1_stepFrom
      rw [if_neg m2, if_pos rfl, e0]
    have ge : gV_X1_stepFrom U V (nI a) (-2) = gV_X1_stepUp (tz V) (nI a) := by
      unfold gV_X1_stepFrom
      rw [if_neg m2, if_pos rfl, e0]
    have rv := (r.tzi.rv a64).2
    have rq := r.rQ (a := a)
    rw [E_X10_nodeBy, if_neg m2, if_pos rfl]
    simp only [h.kt, if_true, E_X10_nodeUp, nh 2 (by decide) 2 rfl, nh 0 (by decide) 0 rfl, Option.bind_some, asI_I, nd.2.1, nd.1]
    have t1 : tz V 1 = V 1 := tz_k V 1 (by decide)
    have t2 : tz V 2 = V 2 := tz_k V 2 (by decide)
    have t4 : tz V 4 = V 4 := tz_k V 4 (by decide)
    cases qr : rootQ D' (nI a) with
    | none =>
      rw [qr] at rv rq
      have v2 : ¬ V 2 a = -1 := fun z => by
        obtain ⟨v, v3', hv⟩ := i.M.ro a a64 ha.2.1 z
        exact rq.2 rfl v v3' hv
      obtain ⟨p, kp, p64, p2, p1, kp1, kp4, u2, _, _, _⟩ := i.M.up hN a64 ha.2.1 v2 hk kn
      have pE : q_X1_isEntry (tz V) (nI p) = 1 := Inv.isE p64 (by rw [t1, p1]; exact i10)
      have aE : q_X1_isEntry (tz V) (nI a) = 1 := Inv.isE a64 (by rw [t1]; exact a0)
      have q' : q_X1_stepUp (tz V) (nI a) = nI p := by
        unfold q_X1_stepUp
        rw [rv, if_neg (show ¬ oI none = 0 by decide), if_pos (show oI none = -1 from rfl), aE, if_neg i10, ix64 a64, t2, p2, pE, if_neg i10, cT_k _ _ _ (by decide) (by decide) (by decide), t2, p2]
      have g' : gV_X1_stepUp (tz V) (nI a) = gV_X1_comeTo (tz V) (nI p) := by
        unfold gV_X1_stepUp
        rw [rv, if_neg (show ¬ oI none = 0 by decide), if_pos (show oI none = -1 from rfl), aE, if_neg i10, ix64 a64, t2, p2, pE, if_neg i10]
      rw [u2, if_neg (nI_m1 (show kp < 2 ^ 31 by omega))]
      have pA : At V p := ⟨p64, p1, by rw [kp4]; exact nI_m1 (by omega)⟩
      refine ⟨nI kp, rfl, Or.inl ⟨p, kp, qe.trans q', ?_, ?_, kp1, rfl⟩, tail⟩
      · rw [ge, g']; exact pA.tzi.come _
      · rw [ge, g', cT_k _ _ _ (by decide) (by decide) (by decide), t4]; exact kp4
    | some v =>
      rw [qr] at rv rq
      obtain ⟨v3', hv⟩ := rq.1 v rfl
      have m9 : ¬ V 9 v = -1 := by rw [hv]; exact nI_m1 (by omega)
      rcases i.M.rt v v3' with ⟨y, _⟩ | ⟨vv, ro, ro64, ro9, ro1, ro2, ro4⟩
      · exact absurd y m9
      have ra : ro = a := (nI_eq (by omega) (by omega)).mp (ro9.symm.trans hv)
      subst ra
      obtain ⟨rn, s1, s2, s3, s4, s5⟩ := hN.rts v vv
      have kr : rn = k := (nI_eq (by omega) (by omega)).mp (s2.symm.trans (ro4.symm.trans hk))
      subst kr
      have ov : oI (some v) = nI v := rfl
      rw [ov] at rv
      rw [s4, if_pos rfl, s5]
      by_cases v0 : v = 0
      · subst v0
        have q' : q_X1_stepUp (tz V) (nI ro) = nI ro := by
          unfold q_X1_stepUp
          rw [rv, if_pos (show nI 0 = 0 from rfl)]
        have g' : gV_X1_stepUp (tz V) (nI ro) = tz V := by
          unfold gV_X1_stepUp
          rw [rv, if_pos (show nI 0 = 0 from rfl)]
        rw [if_pos (show nI 0 = 0 from rfl)]
        refine ⟨nI rn, rfl, Or.inl ⟨ro, rn, qe.trans q', ?_, ?_, kn, rfl⟩, tail⟩
        · rw [ge, g']; exact ha.tzi
        · rw [ge, g', t4]; exact hk
      · have vn0 : ¬ nI v = 0 := fun z => v0 ((nI_eq (by omega) (by omega)).mp (z.trans nI_0.symm))
        obtain ⟨o, o64, ho, o1, o2, o4⟩ := i.M.ov v (by omega) v3' m9
        obtain ⟨ko, ko1, ko2, ko3⟩ := hN.fo o4
        obtain ⟨p, kp, p64, p2, p1, kp1, kp4, u2, _, _, _⟩ := i.M.up hN o64 o1 o2 ko2 ko1
        have cb : q_X1_coveredBy (tz V) (nI v) = nI o := by
          unfold q_X1_coveredBy
          rw [if_neg (nI_pos (show v < 2 ^ 31 by omega)), if_neg (show ¬ (3 : Int32) ≤ nI v from nI_ge (b := 3) v3' (by decide)), ix_nI (by omega), tz_k V 10 (by decide), ho]
        have c1 : ∀ B y, gV_X1_comeTo B y 1 = B 1 := fun B y => cT_k _ _ _ (by decide) (by decide) (by decide)
        have c2 : ∀ B y, gV_X1_comeTo B y 2 = B 2 := fun B y => cT_k _ _ _ (by decide) (by decide) (by decide)
        have c4 : ∀ B y, gV_X1_comeTo B y 4 = B 4 := fun B y => cT_k _ _ _ (by decide) (by decide) (by decide)
        have oE : q_X1_isEntry (gV_X1_comeTo (tz V) (nI o)) (nI o) = 1 := Inv.isE o64 (by rw [c1, t1, o1]; exact i10)
        have pE : q_X1_isEntry (gV_X1_comeTo (tz V) (nI o)) (nI p) = 1 := Inv.isE p64 (by rw [c1, t1, p1]; exact i10)
        have q' : q_X1_stepUp (tz V) (nI ro) = nI p := by
          unfold q_X1_stepUp
          rw [rv, if_neg vn0, if_neg (nI_m1 (show v < 2 ^ 31 by omega)), cb, oE, if_neg i10, ix64 o64, c2, t2, p2, pE, if_neg i10, c2, c2, t2, p2]
        have g' : gV_X1_stepUp (tz V) (nI ro) = gV_X1_comeTo (gV_X1_comeTo (tz V) (nI o)) (nI p) := by
          unfold gV_X1_stepUp
          rw [rv, if_neg vn0, if_neg (nI_m1 (show v < 2 ^ 31 by omega)), cb, oE, if_neg i10, ix64 o64, c2, t2, p2, pE, if_neg i10]
        have e8 : (8 : Int32) + nI v = nI (8 + v) := nI_add 8 v
        have ho0 : V0 10 v = nI o := by rw [← w.2.1]; exact ho
        have d8 : Y 194 (8 + v) = nI o := (r0.B.ov v v3').trans ho0
        have o01 : V0 1 o = 1 := (i0.M.ok v3' o64 ho0).2.2.1
        have en := r0.B.en o o64 (by rw [o01]; exact i10)
        have n4 : V0 4 o = nI ko := (w.2.2 v o v3' o64 ho0).symm.trans ko2
        rw [if_neg vn0]
        simp only [h.f18, Option.bind_some, h.ldD _ e8 (show 8 + v < 1853 by omega), d8, h.kt, if_true, w_its h _ 3 (show (3 : Int32) = nI 3 from rfl) (show o < 128 by omega) (by decide), asI_I, en.2.2.1, n4, w_nodeHas h Y 2 (show (2 : Int32) = nI 2 from rfl) (show ko < 60 by omega) (by decide), (r0.B.nd ko ko1).2.1, u2]
        have pA : At V p := ⟨p64, p1, by rw [kp4]; exact nI_m1 (by omega)⟩
        refine ⟨nI kp, rfl, Or.inl ⟨p, kp, qe.trans q', ?_, ?_, kp1, rfl⟩, tail⟩
        · rw [ge, g']; exact (pA.tzi.come _).come _
        · rw [ge, g', c4, c4, t4]; exact kp4

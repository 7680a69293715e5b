/-! A step, a walk, on both sides. -/
def tz (V : MemV) : MemV := uv V 0 16 0
theorem tz_k (V : MemV) (r : Fin 12) (h : r ≠ 0) : tz V r = V r := uv_k _ _ _ _ _ h
theorem tz_0 (V : MemV) {k : Nat} (h : k ≠ 16) : tz V 0 k = V 0 k := uv_n _ _ _ _ _ _ (fun q => h q.2)
theorem tz_16 (V : MemV) : tz V 0 16 = nI 0 := uv_s V 0 16 0
theorem Inv.tzi {U : NodV} {V : MemV} {H : OneV} {W : WkV} {n vol t T : Nat} {x : Nat → Nat} (i : Inv U V H W n vol t T x) : Inv U (tz V) H W n vol t T x :=
  i.fr (tz_k V 1 (by decide)) (tz_k V 2 (by decide)) (tz_k V 3 (by decide)) (tz_k V 4 (by decide)) (tz_k V 5 (by decide)) (tz_k V 6 (by decide)) (tz_k V 8 (by decide)) (tz_k V 9 (by decide)) (tz_k V 10 (by decide)) (tz_0 V (by decide)) ((tz_0 V (by decide)).trans i.Z.tk) (Nat.le_refl _) (Nat.le_refl _) i.Z.tT i.Z.T30 (tz_0 V (by decide))
theorem CntI.tzi {V : MemV} (C : CntI V) : CntI (tz V) := C.fr (tz_k V 1 (by decide)) (tz_k V 9 (by decide))
theorem At.tzi {V : MemV} {a : Nat} (h : At V a) : At (tz V) a := ⟨h.1, by rw [tz_k V 1 (by decide)]; exact h.2.1, by rw [tz_k V 4 (by decide)]; exact h.2.2⟩
theorem RelB.fr {U : NodV} {V V' : MemV} {H : OneV} {D : RowV} {n : Nat} (b : RelB U V H D n) (k : ∀ r : Fin 12, r ≠ 0 → r ≠ 5 → r ≠ 11 → V' r = V r) (h0 : V' 0 11 = V 0 11 ∧ V' 0 12 = V 0 12 ∧ V' 0 13 = V 0 13 ∧ V' 0 14 = V 0 14) : RelB U V' H D n := by
  refine ⟨?_, ?_, ?_, ?_, b.ev, ?_, ?_, b.ha, b.nd, ?_, ?_⟩
  · rw [h0.2.1]; exact b.tk
  · rw [h0.2.2.1]; exact b.lo
  · rw [h0.2.2.2]; exact b.tr
  · rw [h0.1]; exact b.rm
  · rw [k 9 (by decide) (by decide) (by decide)]; exact b.rt
  · rw [k 10 (by decide) (by decide) (by decide)]; exact b.ov
  · rw [k 1 (by decide) (by decide) (by decide)]; exact b.th
  · intro f hf q
    rw [k 1 (by decide) (by decide) (by decide)] at q
    rw [k 1 (by decide) (by decide) (by decide), k 2 (by decide) (by decide) (by decide), k 3 (by decide) (by decide) (by decide), k 4 (by decide) (by decide) (by decide), k 6 (by decide) (by decide) (by decide), k 7 (by decide) (by decide) (by decide), k 8 (by decide) (by decide) (by decide), cov_fr (k 10 (by decide) (by decide) (by decide))]
    exact b.en f hf q
theorem Rel.tzi {U : NodV} {V : MemV} {H : OneV} {W : WkV} {D : RowV} {n : Nat} (r : Rel none U V H W D n) : Rel none U (tz V) H W D n :=
  r.fr (r.B.fr (fun r h0 _ _ => tz_k V r h0) ⟨tz_0 V (by decide), tz_0 V (by decide), tz_0 V (by decide), tz_0 V (by decide)⟩) (fun _ _ _ => rfl) (fun k z => by cases z)
theorem TlI.none (V : MemV) (W : WkV) (tl : Nat) : TlI none V W tl := fun k z => by cases z
theorem MemI.nk {U : NodV} {V : MemV} {n vol : Nat} (h : MemI U V n vol) (hN : NodI U n vol) {a : Nat} (ha : At V a) : ∃ k, k < n ∧ V 4 a = nI k ∧ ¬ U 4 k = 0 := by
  obtain ⟨a64, a1, a4⟩ := ha
  by_cases q : V 2 a = -1
  · obtain ⟨v, r, _, _, _, r1, r2, _, r3, _⟩ := h.rn hN a64 a1 q
    exact ⟨r, r1, r2, by rw [r3]; exact i20⟩
  · obtain ⟨p, _, _, _, _, p5⟩ := h.ch a a64 a1 q
    rcases hN.fd (V 4 p) (V 3 a) with ⟨z, _⟩ | ⟨k, k1, k2, k3, _⟩
    · rw [p5, z] at a4
      exact absurd rfl a4
    · exact ⟨k, k1, p5.trans k2, k3⟩
theorem fo_nI {U : NodV} {n vol k : Nat} (hN : NodI U n vol) (hk : k < n) : q_X2_isFolder U (nI k) = if U 4 k = 2 then 1 else 0 := by
  have h60 := hN.n60
  unfold q_X2_isFolder
  rw [hN.ex hk, ix_nI (by omega)]
  by_cases z : U 4 k = 0
  · rw [if_pos z, if_pos rfl, z, if_neg i02]
  · rw [if_neg z, if_neg i10]
theorem isF_q {U : NodV} {V : MemV} {a : Nat} (a64 : a < 64) (a0 : ¬ V 1 a = 0) : q_X1_isFolder U V (nI a) = if q_X2_isFolder U (V 4 a) = 0 then 0 else 1 := by
  unfold q_X1_isFolder
  rw [Inv.isE a64 a0, if_neg i10, ix64 a64]
theorem Rel.isFolder {wk : Option Nat} {U : NodV} {V : MemV} {H : OneV} {W : WkV} {D : RowV} {n vol : Nat} (r : Rel wk U V H W D n) (hN : NodI U n vol) (hM : MemI U V n vol) {J : MJ} (h : RefL J) (I : MI) (G : RowV) (c : Int32) {a : Nat} (ha : At V a) : M_X10_isFolder [mR (some 188), mI (nI a)] (rF I D G c, J) = some (some (mI (q_X1_isFolder U V (nI a))), (rF I D G c, J)) := by
  obtain ⟨k, k1, k2, k3⟩ := hM.nk hN ha
  obtain ⟨a64, a1, a4⟩ := ha
  have a0 : ¬ V 1 a = 0 := by rw [a1]; exact i10
  have n60 := hN.n60
  have nd := (r.B.nd k k1).2.2.2.2 k3
  rw [E_X10_isFolder]
  simp only [h.kt, if_true, w_its h _ 3 (show (3 : Int32) = nI 3 from rfl) (show a < 128 by omega) (by decide), Option.bind_some, asI_I, rF_D, (r.B.en a a64 a0).2.2.1]
  rw [if_neg a4, k2]
  simp only [w_nodeHas h _ 1 (show (1 : Int32) = nI 1 from rfl) (show k < 60 by omega) (by decide), Option.bind_some, asI_I, rF_D, nd]
  rw [isF_q a64 a0, k2, fo_nI hN k1]
  by_cases z : U 4 k = 2
  · simp [z]
  · simp [z]
theorem Stq.of0 {wk : Option Nat} {U : NodV} {V V' : MemV} {H : OneV} {W : WkV} {D : RowV} {n vol t T tl : Nat} {x : Nat → Nat} (s : Stq wk U (tz V) V' H W D n vol t T tl x) : Stq wk U V V' H W D n vol t T tl x := by
  obtain ⟨a, b, c, d, e, f, g, i⟩ := s
  refine ⟨a, b, c, d, by rw [e, tz_k V 9 (by decide)], by rw [f, tz_k V 10 (by decide)], by rw [g, tz_0 V (by decide)], fun k h1 h2 h3 => ?_⟩
  have z := i k h1 (by rw [tz_k V 1 (by decide)]; exact h2) h3
  unfold Sta at z ⊢
  rw [tz_k V 1 (by decide), tz_k V 2 (by decide), tz_k V 3 (by decide), tz_k V 4 (by decide), tz_k V 6 (by decide), tz_k V 8 (by decide)] at z
  exact z
/-- what a step comes to -/
def Sto (V' : MemV) (q how c' : Int32) (a tl : Nat) : Prop := (how = 0 ∧ ∃ a', c' = nI a' ∧ q = nI a' ∧ At V' a' ∧ Trl V' a a' tl) ∨ (how = -2 ∧ q = -2 ∧ tl = 1 ∧ V' 0 16 = nI 1 ∧ ∃ e, e < 64 ∧ V' 11 0 = nI e ∧ V' 1 e = 1 ∧ V' 4 e = -1) ∨ (how = -3 ∧ q = -3 ∧ tl = 0 ∧ V' 0 16 = nI 0)
theorem Rel.steps0 {wk : Option Nat} {U : NodV} {V : MemV} {H : OneV} {W : WkV} {D : RowV} {n vol t T : Nat} {x : Nat → Nat} (r : Rel wk U (tz V) H W D n) (i : Inv U V H W n vol t T x) (C : CntI V) (hx : ∀ e, e < 64 → ¬ x e = 0 → ¬ V 4 e = -1) {J : MJ} (h : RefL J) (I : MI) (hb : HB (I 188 20) x) (hw : I 188 21 = oI wk) (G : RowV) (ht : TlI wk (tz V) W 0) {a : Nat} (ha : At V a) {s y : Int32} (hs : NmS s y) (tT : t + 2 ≤ T) : ∃ D' G' c' how t' tl, M_X10_steps0 [mR (some 188), mI y] (rF I D G (nI a), J) = some (some (mI how), (rF I D' G' c', J)) ∧ Stq wk U V (gV_X1_stepFrom U V (nI a) s) H W D' n vol t' T tl x ∧ t ≤ t' ∧ t' ≤ t + 2 ∧ Sto (gV_X1_stepFrom U V (nI a) s) (q_X1_stepFrom U V (nI a) s) how c' a tl := by

  have i0 := i.tzi
  have C0 := C.tzi
  have a0 := ha.tzi
  have hx0 : ∀ e, e < 64 → ¬ x e = 0 → ¬ tz V 4 e = -1 := fun e a b => by rw [tz_k V 4 (by decide)]; exact hx e a b
  have e0 : uv V 0 16 0 = tz V := rfl
  rw [E_X10_steps0]
  unfold gV_X1_stepFrom q_X1_stepFrom
  rw [e0]
  rcases hs with hn | ⟨s1, y1⟩ | ⟨s1, y1⟩
  · obtain ⟨g1, g2⟩ := hn.gt
    rw [if_neg (i32_gt_ne g2).1, if_neg (i32_gt_ne g2).2.1, if_neg (i32_gt_ne g1).1, if_neg (i32_gt_ne g1).2.1, if_neg (i32_gt_ne g1).1, if_neg (i32_gt_ne g1).2.1]
    simp only [h.fi, rF_c, Option.bind_some, h.kt, if_true, r.isFolder i0.N i0.M h I G (nI a) a0, asI_I]
    by_cases fo : q_X1_isFolder U (tz V) (nI a) = 0
    · rw [if_pos fo, if_pos fo, if_pos fo]
      exact ⟨D, G, nI a, -3, t, 0, rfl, (Stq.refl r i0 C0 ht).of0, by omega, by omega, Or.inr (Or.inr ⟨rfl, rfl, rfl, tz_16 V⟩)⟩
    · rw [if_neg fo, if_neg fo, if_neg fo]
      have pf : ¬ q_X2_isFolder U (tz V 4 a) = 0 := fun z => fo (by rw [isF_q a0.1 (by rw [a0.2.1]; exact i10), if_pos z])
      obtain ⟨D1, G1, e, c1, c2, e64, c3, c4, c5, c6, c7, c8, c9⟩ := r.childOf i0 C0 hx0 h I hb hw G (nI a) ht a0.1 a0.2.1 pf hn (by omega)
      have rt := reach_tl c2 e64 (tz_16 V)
      have e0' : ¬ gV_X1_reach U (tz V) (nI a) s 1 e = 0 := by rw [c4]; exact i10
      have en := c3.1.B.en e e64 e0'
      simp only [c1, Option.bind_some, asI_I, w_its h _ 3 (show (3 : Int32) = nI 3 from rfl) (show e < 128 by omega) (by decide), rF_D, en.2.2.1, h.kt, if_true]
      rw [c2, Inv.isE e64 e0', if_neg i10, if_neg i10, ix64 e64]
      generalize gV_X1_reach U (tz V) (nI a) s = V1 at c3 c4 c5 c6 c7 c8 c9 rt e0' en
      by_cases ab : V1 4 e = -1
      · rw [if_pos ab, if_pos ab, if_pos ab]
        exact ⟨D1, G1, nI a, -2, t + 1, 1, rfl, c3.of0, by omega, by omega, Or.inr (Or.inl ⟨rfl, rfl, rfl, rt.1, e, e64, rt.2, c4, ab⟩)⟩
      · rw [if_neg ab, if_neg ab, if_neg ab]
        simp only [h.wi, rF_sc, Option.bind_some, h.kt, if_true, w_its h _ 7 (show (7 : Int32) = nI 7 from rfl) (show e < 128 by omega) (by decide), asI_I, rF_D, en.2.2.2.2.2.2.1]
        have cv : q_X1_coveringVolume V1 (nI e) = oI (f_X1_coveringVolume V1 (nI e)) := rfl
        cases q : f_X1_coveringVolume V1 (nI e) with
        | none =>
          rw [q] at cv
          rw [cv, if_pos (show oI none = -1 from rfl), if_pos (show oI none < 0 by decide), if_pos (show oI none < 0 by decide)]
          refine ⟨D1, G1, nI e, 0, t + 1, 1, rfl, c3.of0, by omega, by omega, Or.inl ⟨rfl, e, rfl, rfl, ⟨e64, c4, ab⟩, rt.1, by omega, fun z => by omega, fun _ => rt.2, fun j hj => ?_⟩⟩
          have : j = 0 := by omega
          subst this
          exact ⟨e, rt.2, e64, c4, ab⟩
        | some v =>
          obtain ⟨_, v3, v4, _⟩ := fst_some q
          have v3 : v < 3 := by omega
          have v4 : V1 10 v = nI e := by
            rw [if_neg (nI_m1 (by omega))] at v4
            by_cases z : V1 10 v = nI e
            · exact z
            · rw [if_neg z] at v4; cases v4
          have ov : oI (some v) = nI v := rfl
          rw [q, ov] at cv
          have mo := (c3.2.1.M.ok v3 e64 v4).2.1
          rcases c3.2.1.M.rt v v3 with ⟨z, _⟩ | ⟨vv, ro, ro64, ro1, ro2, ro3, ro4⟩
          · exact absurd z mo
          · have n60 := i.N.n60
            have roA : At V1 ro := by
              obtain ⟨v', rr, _, _, _, r1, r2, _⟩ := c3.2.1.M.rn c3.2.1.N ro64 ro2 ro3
              exact ⟨ro64, ro2, by rw [r2]; exact nI_m1 (by omega)⟩
            have ro0 : ¬ V1 1 ro = 0 := by rw [ro2]; exact i10
            rw [cv, if_neg (nI_m1 (by omega)), if_neg (nI_pos (show v < 2 ^ 31 by omega)), if_neg (nI_pos (show v < 2 ^ 31 by omega)), if_pos (show nI v < 3 from nI_lt (b := 3) v3 (by decide)), if_pos (show nI v < 3 from nI_lt (b := 3) v3 (by decide)), ix_nI (by omega), ro1]
            obtain ⟨D2, d1, d2⟩ := c3.come (by decide) h I hw G1 (nI ro) (by omega) ro64 ro0
            have tl := cT_tl V1 ro64 rt.1 (by decide)
            refine ⟨D2, G1, nI ro, 0, t + 2, 2, ?_, d2.of0, by omega, by omega, Or.inl ⟨rfl, ro, rfl, ?_, roA.come _, tl.1, by omega, fun z => by omega, fun _ => by rw [tl.2, if_pos rfl], fun j hj => ?_⟩⟩
            · have e5 : (5 : Int32) + nI v = nI (5 + v) := nI_add 5 v
              have o5 : D1 (5 + v) = nI ro := (c3.1.B.rt v v3).trans ro1
              simp only [h.f18, Option.bind_some, h.ldD _ e5 (show 5 + v < 1853 by omega), rF_D, o5, h.wi, rF_sc, h.fi, rF_c, h.kt, if_true, d1, asV_n]
            · rw [cT_k _ _ _ (by decide) (by decide) (by decide)]; exact ro1
            · rcases (show j = 0 ∨ j = 1 by omega) with z | z
              · subst z
                exact ⟨e, by rw [tl.2, if_neg (by decide)]; exact rt.2, (show At V1 e from ⟨e64, c4, ab⟩).come _⟩
              · subst z
                exact ⟨ro, by rw [tl.2, if_pos rfl], roA.come _⟩
  · subst s1 y1
    rw [if_pos rfl, if_pos rfl, if_pos rfl]
    exact ⟨D, G, nI a, 0, t, 0, rfl, (Stq.refl r i0 C0 ht).of0, by omega, by omega, Or.inl ⟨rfl, a, rfl, rfl, a0, tz_16 V, by omega, fun _ => rfl, fun z => by omega, fun j hj => by omega⟩⟩
  · subst s1 y1
    have m2 : ¬ (-2 : Int32) = -1 := by decide
    rw [if_neg m2, if_neg m2, if_neg m2, if_pos rfl, if_pos rfl, if_pos rfl]
    obtain ⟨D', a', t', tl, g1, g2, g3, g4, g5, g6, g7⟩ := r.goesUp i0 C0 h I hw G ht (tz_16 V) a0 (by omega)
    refine ⟨D', G, nI a', 0, t', tl, ?_, g3.of0, g4, g5, Or.inl ⟨rfl, a', rfl, g2, g6, g7⟩⟩
    simp only [h.kt, if_true, g1, Option.bind_some, asV_n]

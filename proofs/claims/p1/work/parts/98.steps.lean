/-! A step of a walk, on both sides. -/
theorem shrink_tsm (but y : Int32) : ∀ (nn k : Nat) (V : MemV), Tsm V (lp_X1_shrink_12 but y nn k V)
  | 0, k, V => Tsm.refl V
  | nn + 1, k, V => by
    show Tsm V (if q_X1_longestUnused V but = -1 then V else _)
    by_cases q : q_X1_longestUnused V but = -1
    · rw [if_pos q]; exact Tsm.refl V
    · rw [if_neg q]
      rcases lu_q V but with ⟨z, _⟩ | ⟨e, e64, z, _⟩
      · exact absurd z q
      · rw [z]
        exact (Tsm.tr V e64).trans (shrink_tsm but y nn (k + 1) (trV V e))
theorem reach_tl {U : NodV} {V : MemV} {x nm : Int32} {e : Nat} (h : q_X1_reach U V x nm = nI e) (he : e < 64) (h0 : V 0 16 = nI 0) : gV_X1_reach U V x nm 0 16 = nI 1 ∧ gV_X1_reach U V x nm 11 0 = nI e := by
  unfold q_X1_reach at h
  unfold gV_X1_reach
  have ne : ¬ nI e = -1 := nI_m1 (by omega)
  by_cases q : q_X1_find V x nm = -1
  · rw [if_pos q] at h ⊢
    by_cases z : q_X1_add V x nm (q_X2_find U (q_X1_nodeOf V x) nm) = -1
    · rw [if_pos z, z] at h
      exact absurd h.symm ne
    · rw [if_neg z] at h ⊢
      cases lu : f_X1_leastUnused V with
      | none =>
        have : q_X1_add V x nm (q_X2_find U (q_X1_nodeOf V x) nm) = -1 := by
          unfold q_X1_add q_X1_leastUnused ql_X1_leastUnused
          rw [lu, if_pos (by decide)]
        exact absurd this z
      | some f =>
        have fe : f = e := by
          rw [ad_q lu] at h
          exact (nI_eq (by have := (lu_some lu).1; omega) (by omega)).mp h
        subst fe
        have tl := ad_tl lu x nm (q_X2_find U (q_X1_nodeOf V x) nm) h0 (by decide)
        have ts : ∀ B b, Tsm B (gV_X1_shrink B b) := fun B b => shrink_tsm _ _ _ _ B
        have t1 := ts (uv (gV_X1_add V x nm (q_X2_find U (q_X1_nodeOf V x) nm)) 0 13 (gV_X1_add V x nm (q_X2_find U (q_X1_nodeOf V x) nm) 0 13 + 1)) (q_X1_add V x nm (q_X2_find U (q_X1_nodeOf V x) nm))
        rw [t1.2.1 16 (by decide), t1.1 11 (by decide) (by decide) (by decide), uv_n _ _ _ _ _ _ (by decide), uv_k _ _ _ _ _ (by decide), tl.1, tl.2 0, if_pos rfl]
        exact ⟨rfl, rfl⟩
  · rw [if_neg q] at h ⊢
    rw [h]
    have tl := cT_tl V he h0 (by decide)
    rw [tl.1, tl.2 0, if_pos rfl]
    exact ⟨rfl, rfl⟩
/-- where a walk may be -/
def At (V : MemV) (a : Nat) : Prop := a < 64 ∧ V 1 a = 1 ∧ ¬ V 4 a = -1
theorem At.come {V : MemV} {a : Nat} (h : At V a) (y : Int32) : At (gV_X1_comeTo V y) a := by
  refine ⟨h.1, ?_, ?_⟩
  · rw [cT_k _ _ _ (by decide) (by decide) (by decide)]; exact h.2.1
  · rw [cT_k _ _ _ (by decide) (by decide) (by decide)]; exact h.2.2
theorem MemI.at_p {U : NodV} {V : MemV} {n vol : Nat} (h : MemI U V n vol) (hN : NodI U n vol) {a : Nat} (a64 : a < 64) (a1 : V 1 a = 1) (a2 : ¬ V 2 a = -1) : ∃ p, V 2 a = nI p ∧ At V p := by
  obtain ⟨p, p64, p1, p2, p3, _⟩ := h.ch a a64 a1 a2
  obtain ⟨k, k1, k2, _⟩ := hN.fo p3
  have := hN.n60
  exact ⟨p, p1, p64, p2, by rw [k2]; exact nI_m1 (by omega)⟩
/-- the trail that a step leaves -/
def Trl (V' : MemV) (a a' tl : Nat) : Prop := V' 0 16 = nI tl ∧ tl ≤ 2 ∧ (tl = 0 → a' = a) ∧ (0 < tl → V' 11 (tl - 1) = nI a') ∧ ∀ j, j < tl → ∃ f, V' 11 j = nI f ∧ At V' f
theorem Stq.refl {wk : Option Nat} {U : NodV} {V : MemV} {H : OneV} {W : WkV} {D : RowV} {n vol t T tl : Nat} {x : Nat → Nat} (r : Rel wk U V H W D n) (i : Inv U V H W n vol t T x) (C : CntI V) (ht : TlI wk V W tl) : Stq wk U V V H W D n vol t T tl x := ⟨r, i, C, ht, rfl, rfl, rfl, fun f _ _ _ => Sta.refl V f⟩
theorem Stq.come {wk : Option Nat} {U : NodV} {V V' : MemV} {H : OneV} {W : WkV} {D : RowV} {n vol t T tl : Nat} {x : Nat → Nat} (s : Stq wk U V V' H W D n vol t T tl x) (tl2 : tl < 2) {J : MJ} (h : RefL J) (I : MI) (hw : I 188 21 = oI wk) (G : RowV) (c : Int32) (tT : t + 1 ≤ T) {e : Nat} (he : e < 64) (e1 : ¬ V' 1 e = 0) : ∃ D', M_X10_comesTo [mR (some 188), mI (nI e)] (rF I D G c, J) = some (none, (rF I D' G c, J)) ∧ Stq wk U V (gV_X1_comeTo V' (nI e)) H W D' n vol (t + 1) T (tl + 1) x := by
  obtain ⟨r, i, C, ht, e9, e10, el, hs⟩ := s
  obtain ⟨D', d1, d2, d3, _⟩ := r.come i.N.n60 h I hw G c ht tl2 he e1
  have k : ∀ r : Fin 12, r ≠ 0 → r ≠ 7 → r ≠ 11 → gV_X1_comeTo V' (nI e) r = V' r := cT_k V' (nI e)
  exact ⟨D', d1, d2, i.come he tT, C.fr (k 1 (by decide) (by decide) (by decide)) (k 9 (by decide) (by decide) (by decide)), d3, (k 9 (by decide) (by decide) (by decide)).trans e9, (k 10 (by decide) (by decide) (by decide)).trans e10, (cT_0 _ _ _ (by decide) (by decide)).trans el, fun f a b c => (hs f a b c).trans (Sta.come V' _ f)⟩
theorem Rel.rv {wk : Option Nat} {U : NodV} {V : MemV} {H : OneV} {W : WkV} {D : RowV} {n : Nat} (r : Rel wk U V H W D n) {a : Nat} (a64 : a < 64) : f_X1_rootVolume V (nI a) = rootQ D (nI a) ∧ q_X1_rootVolume V (nI a) = oI (rootQ D (nI a)) := by
  have e : f_X1_rootVolume V (nI a) = rootQ D (nI a) := by
    unfold f_X1_rootVolume rootQ
    refine fst_cong (fun v _ hv => ?_)
    rw [if_neg (nI_m1 (by omega)), r.B.rt v (by omega)]
    by_cases z : V 9 v = nI a
    · simp [z]
    · simp [z]
  refine ⟨e, ?_⟩
  show oI (f_X1_rootVolume V (nI a)) = _
  rw [e]
theorem Rel.rQ {wk : Option Nat} {U : NodV} {V : MemV} {H : OneV} {W : WkV} {D : RowV} {n : Nat} (r : Rel wk U V H W D n) {a : Nat} : (∀ v, rootQ D (nI a) = some v → v < 3 ∧ V 9 v = nI a) ∧ (rootQ D (nI a) = none → ∀ v, v < 3 → ¬ V 9 v = nI a) := by
  refine ⟨fun v q => ?_, fun q v hv z => ?_⟩
  · obtain ⟨_, v3, v4, _⟩ := fst_some q
    have v4 : D (5 + v) = nI a := by simpa using v4
    exact ⟨by omega, by rw [← r.B.rt v (by omega)]; exact v4⟩
  · have := fst_none q v (Nat.zero_le _) (by omega)
    rw [r.B.rt v hv, z] at this
    simp at this
theorem Rel.goesUp {wk : Option Nat} {U : NodV} {V : MemV} {H : OneV} {W : WkV} {D : RowV} {n vol t T : Nat} {x : Nat → Nat} (r : Rel wk U V H W D n) (i : Inv U V H W n vol t T x) (C : CntI V) {J : MJ} (h : RefL J) (I : MI) (hw : I 188 21 = oI wk) (G : RowV) (ht : TlI wk V W 0) (h16 : V 0 16 = nI 0) {a : Nat} (ha : At V a) (tT : t + 2 ≤ T) : ∃ D' a' t' tl, M_X10_goesUp [mR (some 188)] (rF I D G (nI a), J) = some (none, (rF I D' G (nI a'), J)) ∧ q_X1_stepUp V (nI a) = nI a' ∧ Stq wk U V (gV_X1_stepUp V (nI a)) H W D' n vol t' T tl x ∧ t ≤ t' ∧ t' ≤ t + 2 ∧ At (gV_X1_stepUp V (nI a)) a' ∧ Trl (gV_X1_stepUp V (nI a)) a a' tl := by
  obtain ⟨a64, a1, a4⟩ := ha
  have a0 : ¬ V 1 a = 0 := by rw [a1]; exact i10
  have rv := (r.rv a64).2
  have ro := w_rootOf h (rF I D G (nI a)) (nI a)
  rw [rF_D] at ro
  rw [E_X10_goesUp]
  simp only [h.fi, rF_c, Option.bind_some, h.kt, if_true, ro, asI_I]
  unfold q_X1_stepUp gV_X1_stepUp
  rw [rv]
  cases q : rootQ D (nI a) with
  | none =>
    have a2 : ¬ V 2 a = -1 := fun z => by
      obtain ⟨v, v3, v4⟩ := i.M.ro a a64 a1 z
      exact r.rQ.2 q v v3 v4
    obtain ⟨p, p2, pa⟩ := i.M.at_p i.N a64 a1 a2
    have p0 : ¬ V 1 p = 0 := by rw [pa.2.1]; exact i10
    rw [if_neg (show ¬ oI none = 0 by decide), if_neg (show ¬ oI none = 0 by decide), if_neg (show ¬ oI none = 0 by decide), if_pos (show oI none = -1 from rfl), if_pos (show oI none = -1 from rfl), if_pos (show oI none = -1 from rfl), Inv.isE a64 a0, if_neg i10, if_neg i10, ix64 a64, p2, Inv.isE pa.1 p0, if_neg i10, if_neg i10]
    obtain ⟨D', d1, d2⟩ := (Stq.refl r i C ht).come (by decide) h I hw G (nI p) (by omega) pa.1 p0
    have tl := cT_tl V pa.1 h16 (by decide)
    refine ⟨D', p, t + 1, 1, ?_, ?_, d2, by omega, by omega, pa.come _, tl.1, by omega, fun z => by omega, fun _ => by rw [tl.2, if_pos rfl], fun j hj => ?_⟩
    · simp only [w_its h _ 1 (show (1 : Int32) = nI 1 from rfl) (show a < 128 by omega) (by decide), Option.bind_some, asI_I, rF_D, (r.B.en a a64 a0).1, p2, h.wi, rF_sc, rF_c, h.fi, h.kt, if_true, d1, asV_n]
    · rw [cT_k _ _ _ (by decide) (by decide) (by decide)]; exact p2
    · have : j = 0 := by omega
      subst this
      exact ⟨p, by rw [tl.2, if_pos rfl], pa.come _⟩
  | some v =>
    obtain ⟨v3, v9⟩ := r.rQ.1 v q
    by_cases z : v = 0
    · subst z
      rw [if_pos (show oI (some 0) = 0 from rfl), if_pos (show oI (some 0) = 0 from rfl), if_pos (show oI (some 0) = 0 from rfl)]
      exact ⟨D, a, t, 0, rfl, rfl, Stq.refl r i C ht, by omega, by omega, ⟨a64, a1, a4⟩, h16, by omega, fun _ => rfl, fun z => by omega, fun j hj => by omega⟩
    · have n0 : ¬ oI (some v) = 0 := nI_ne0 (by omega) (by omega)
      have n1 : ¬ oI (some v) = -1 := nI_m1 (by omega)
      obtain ⟨o, o64, o1, o2, o3, o4⟩ := i.M.ov v (by omega) v3 (by rw [v9]; exact nI_m1 (by omega))
      have o0 : ¬ V 1 o = 0 := by rw [o2]; exact i10
      obtain ⟨p, p2, pa⟩ := i.M.at_p i.N o64 o2 o3
      have p0 : ¬ V 1 p = 0 := by rw [pa.2.1]; exact i10
      have cb : q_X1_coveredBy V (oI (some v)) = nI o := by
        have ov : oI (some v) = nI v := rfl
        unfold q_X1_coveredBy
        rw [ov, if_neg (nI_pos (by omega)), if_neg (show ¬ (3 : Int32) ≤ nI v from nI_ge (b := 3) v3 (by decide)), ix_nI (by omega)]
        exact o1
      have k : ∀ r : Fin 12, r ≠ 0 → r ≠ 7 → r ≠ 11 → gV_X1_comeTo V (nI o) r = V r := cT_k V (nI o)
      have c2 : gV_X1_comeTo V (nI o) 2 (ix (nI o)) = nI p := by
        rw [k 2 (by decide) (by decide) (by decide), ix64 o64]; exact p2
      rw [if_neg n0, if_neg n0, if_neg n0, if_neg n1, if_neg n1, if_neg n1, cb, c2, Inv.isE (V := gV_X1_comeTo V (nI o)) o64 (by rw [k 1 (by decide) (by decide) (by decide)]; exact o0), if_neg i10, if_neg i10, Inv.isE (V := gV_X1_comeTo V (nI o)) pa.1 (by rw [k 1 (by decide) (by decide) (by decide)]; exact p0), if_neg i10, if_neg i10]
      obtain ⟨D1, d1, d2⟩ := (Stq.refl r i C ht).come (by decide) h I hw G (nI o) (by omega) o64 o0
      obtain ⟨D2, g1, g2⟩ := d2.come (by decide) h I hw G (nI p) (by omega) pa.1 (by rw [k 1 (by decide) (by decide) (by decide)]; exact p0)
      have tl := cT_tl V o64 h16 (by decide)
      have tl2 := cT_tl (gV_X1_comeTo V (nI o)) pa.1 tl.1 (by decide)
      have oa : At V o := by
        obtain ⟨kk, kk1, kk2, _⟩ := i.N.fo o4
        have := i.N.n60
        exact ⟨o64, o2, by rw [kk2]; exact nI_m1 (by omega)⟩
      refine ⟨D2, p, t + 2, 2, ?_, ?_, g2, by omega, by omega, (pa.come _).come _, tl2.1, by omega, fun z => by omega, fun _ => by rw [tl2.2, if_pos rfl], fun j hj => ?_⟩
      · have e8 : (8 : Int32) + nI v = nI (8 + v) := nI_add 8 v
        have o8 : D (8 + v) = nI o := (r.B.ov v v3).trans o1
        have en : D1 (701 + 9 * o + 1) = nI p := by
          rw [(d2.1.B.en o o64 (by rw [k 1 (by decide) (by decide) (by decide)]; exact o0)).1, k 2 (by decide) (by decide) (by decide)]
          exact p2
        simp only [h.f18, Option.bind_some, oI, h.ldD _ e8 (show 8 + v < 1853 by omega), rF_D, o8, h.wi, rF_sc, rF_c, h.fi, h.kt, if_true, d1, asV_n, w_its h _ 1 (show (1 : Int32) = nI 1 from rfl) (show o < 128 by omega) (by decide), asI_I, en, g1]
      · rw [cT_k _ _ _ (by decide) (by decide) (by decide)]; exact c2
      · rcases (show j = 0 ∨ j = 1 by omega) with z | z
        · subst z
          exact ⟨o, by rw [tl2.2, if_neg (by decide), tl.2, if_pos rfl], (oa.come _).come _⟩
        · subst z
          exact ⟨p, by rw [tl2.2, if_pos rfl], (pa.come _).come _⟩

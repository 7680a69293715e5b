/-! A child is come to or loaded, on both sides. -/
def loV (V : MemV) : MemV := uv V 0 13 (V 0 13 + 1)
theorem loV_k (V : MemV) (r : Fin 12) (h : r ≠ 0) : loV V r = V r := uv_k _ _ _ _ _ h
theorem loV_0 (V : MemV) {k : Nat} (h : k ≠ 13) : loV V 0 k = V 0 k := uv_n _ _ _ _ _ _ (fun q => h q.2)
theorem Inv.lo {U : NodV} {V : MemV} {H : OneV} {W : WkV} {n vol t T : Nat} {x : Nat → Nat} (i : Inv U V H W n vol t T x) : Inv U (loV V) H W n vol t T x :=
  i.fr (loV_k V 1 (by decide)) (loV_k V 2 (by decide)) (loV_k V 3 (by decide)) (loV_k V 4 (by decide)) (loV_k V 5 (by decide)) (loV_k V 6 (by decide)) (loV_k V 8 (by decide)) (loV_k V 9 (by decide)) (loV_k V 10 (by decide)) (loV_0 V (by decide)) ((loV_0 V (by decide)).trans i.Z.tk) (Nat.le_refl _) (Nat.le_refl _) i.Z.tT i.Z.T30 (loV_0 V (by decide))
theorem Rel.lo {wk : Option Nat} {U : NodV} {V : MemV} {H : OneV} {W : WkV} {D : RowV} {n : Nat} (r : Rel wk U V H W D n) : Rel wk U (loV V) H W (sD D 1 (D 1 + 1)) n := by
  have o : ∀ i, i ≠ 1 → sD D 1 (D 1 + 1) i = D i := fun i a => sD_n _ _ a
  have k := loV_k V
  have b := r.B
  refine r.fr ⟨?_, ?_, ?_, ?_, ?_, ?_, ?_, ?_, ?_, ?_, ?_⟩ (fun i h1 h2 => o i (by omega)) (fun _ _ => ⟨loV_0 V (by decide), k 11 (by decide), fun f _ _ _ _ _ _ _ => ⟨by rw [k 8 (by decide)], by rw [k 6 (by decide)]⟩⟩)
  · rw [o 0 (by omega), loV_0 V (by decide)]; exact b.tk
  · rw [sD_s, b.lo]
    exact (uv_s V 0 13 _).symm
  · rw [o 2 (by omega), loV_0 V (by decide)]; exact b.tr
  · rw [o 3 (by omega), loV_0 V (by decide)]; exact b.rm
  · rw [o 4 (by omega)]; exact b.ev
  · intro v hv
    rw [o _ (by omega), k 9 (by decide)]; exact b.rt v hv
  · intro v hv
    rw [o _ (by omega), k 10 (by decide)]; exact b.ov v hv
  · intro v hv
    rw [o _ (by omega)]; exact b.ha v hv
  · intro j hj
    rw [o _ (by omega), o _ (by omega), o _ (by omega), o _ (by omega), o _ (by omega)]
    exact b.nd j hj
  · intro f hf
    rw [o _ (by omega), k 1 (by decide)]
    exact b.th f hf
  · intro f hf q
    rw [k 1 (by decide)] at q
    rw [o _ (by omega), o _ (by omega), o _ (by omega), o _ (by omega), o _ (by omega), o _ (by omega), o _ (by omega), o _ (by omega), k 1 (by decide), k 2 (by decide), k 3 (by decide), k 4 (by decide), k 6 (by decide), k 7 (by decide), k 8 (by decide), cov_fr (k 10 (by decide))]
    exact b.en f hf q
/-- an entry stays as it is -/
def Sta (V V' : MemV) (f : Nat) : Prop := V' 1 f = V 1 f ∧ V' 2 f = V 2 f ∧ V' 3 f = V 3 f ∧ V' 4 f = V 4 f ∧ V' 6 f = V 6 f ∧ V' 8 f = V 8 f
theorem Sta.refl (V : MemV) (f : Nat) : Sta V V f := ⟨rfl, rfl, rfl, rfl, rfl, rfl⟩
theorem Sta.trans {V V' V'' : MemV} {f : Nat} (h : Sta V V' f) (h' : Sta V' V'' f) : Sta V V'' f := ⟨h'.1.trans h.1, h'.2.1.trans h.2.1, h'.2.2.1.trans h.2.2.1, h'.2.2.2.1.trans h.2.2.2.1, h'.2.2.2.2.1.trans h.2.2.2.2.1, h'.2.2.2.2.2.trans h.2.2.2.2.2⟩
theorem Sta.come (V : MemV) (y : Int32) (f : Nat) : Sta V (gV_X1_comeTo V y) f := by
  refine ⟨?_, ?_, ?_, ?_, ?_, ?_⟩ <;> rw [cT_k _ _ _ (by decide) (by decide) (by decide)]
theorem CntI.le {V : MemV} (h : CntI V) : nc V ≤ 63 := by
  have : cnt (fun v => decide (¬ V 9 v = -1)) 1 2 ≤ 2 := cnt_le _ _ _
  unfold CntI at h
  unfold nc
  omega
theorem CntI.of {V : MemV} (h : nc V ≤ 61) : CntI V := by
  unfold CntI
  unfold nc at h
  omega
theorem CntI.fr {V V' : MemV} (h : CntI V) (e1 : V' 1 = V 1) (e9 : V' 9 = V 9) : CntI V' := by
  unfold CntI
  rw [e1, e9]
  exact h
/-- what a step of the memory gives -/
def Stq (wk : Option Nat) (U : NodV) (V V' : MemV) (H : OneV) (W : WkV) (D' : RowV) (n vol t T tl : Nat) (x : Nat → Nat) : Prop := Rel wk U V' H W D' n ∧ Inv U V' H W n vol t T x ∧ CntI V' ∧ TlI wk V' W tl ∧ V' 9 = V 9 ∧ V' 10 = V 10 ∧ V' 0 11 = V 0 11 ∧ ∀ f, f < 64 → ¬ V 1 f = 0 → ¬ x f = 0 → Sta V V' f
theorem nI_sub {a b : Nat} (h : b ≤ a) : nI a - nI b = nI (a - b) := by
  have : nI (a - b) + nI b = nI a := by rw [nI_add]; congr 1; omega
  rw [← this]
  exact Int32.add_sub_cancel _ _
theorem ix_sub {a b : Nat} (ha : a < 1000) (hb : b < 1000) : ix (nI a - nI b) = a - b := by
  by_cases q : b ≤ a
  · rw [nI_sub q, ix_nI (by omega)]
  · show (nI a - nI b).toInt.toNat = _
    rw [Int32.toInt_sub, nI_toInt (by omega), nI_toInt (by omega), Int.bmod_eq_of_le (by omega) (by omega)]
    omega
theorem Rel.childOf {wk : Option Nat} {U : NodV} {V : MemV} {H : OneV} {W : WkV} {D : RowV} {n vol t T : Nat} {x : Nat → Nat} (r : Rel wk U V H W D n) (i : Inv U V H W n vol t T x) (C : CntI V) (hx : ∀ e, e < 64 → ¬ x e = 0 → ¬ V 4 e = -1) {J : MJ} (h : RefL J) (I : MI) (hb : HB (I 188 20) x) (hw : I 188 21 = oI wk) (G : RowV) (c : Int32) (ht : TlI wk V W 0) {p : Nat} (p64 : p < 64) (p1 : V 1 p = 1) (pf : ¬ q_X2_isFolder U (V 4 p) = 0) {nm ym : Int32} (hn : Nm nm ym) (tT : t + 1 ≤ T) : ∃ D' G' e, M_X10_childOf [mR (some 188), mI (nI p), mI ym] (rF I D G c, J) = some (some (mI (nI e)), (rF I D' G' c, J)) ∧ q_X1_reach U V (nI p) nm = nI e ∧ e < 64 ∧ Stq wk U V (gV_X1_reach U V (nI p) nm) H W D' n vol (t + 1) T 1 x ∧ gV_X1_reach U V (nI p) nm 1 e = 1 ∧ gV_X1_reach U V (nI p) nm 2 e = nI p ∧ gV_X1_reach U V (nI p) nm 3 e = nm ∧ gV_X1_reach U V (nI p) nm 4 e = q_X2_find U (V 4 p) nm ∧ gV_X1_reach U V (nI p) nm 4 p = V 4 p ∧ gV_X1_reach U V (nI p) nm 1 p = 1 := by
  have p0 : ¬ V 1 p = 0 := by rw [p1]; exact i10
  have n60 := i.N.n60
  have T30 := i.Z.T30
  have ch := w_childHere h (rF I D G c) (nI p) ym
  rw [rF_D, r.eqc (nI p) hn] at ch
  have fo := find_o (V := V) p64 p0 nm
  rw [E_X10_childOf]
  simp only [h.kt, if_true, ch, Option.bind_some, asI_I]
  unfold q_X1_reach gV_X1_reach
  cases q : f_X1_find V (nI p) nm with
  | some e =>
    obtain ⟨e64, e0, e2, e3⟩ := fd_some q
    rw [q] at fo
    rw [fo]
    have ne : ¬ oI (some e) = -1 := nI_m1 (by omega)
    rw [if_neg ne, if_neg ne, if_neg ne]
    obtain ⟨D', d1, d2, d3, d4⟩ := r.come n60 h I hw G c ht (by decide) e64 e0
    have e1 : V 1 e = 1 := by
      rcases i.M.st e e64 with z | z | z
      · exact absurd z e0
      · exact z
      · rw [(i.M.go e e64 z).1] at e2
        exact absurd e2.symm (nI_m1 (by omega))
    have k : ∀ r : Fin 12, r ≠ 0 → r ≠ 7 → r ≠ 11 → gV_X1_comeTo V (nI e) r = V r := cT_k V (nI e)
    obtain ⟨p', pp1, pp2, pp3, pp4, pp5⟩ := i.M.ch e e64 e1 (by rw [e2]; exact nI_m1 (by omega))
    have : p' = p := (nI_eq (by omega) (by omega)).mp (pp2.symm.trans e2)
    subst this
    refine ⟨D', G, e, ?_, rfl, e64, ⟨d2, i.come e64 tT, C.fr (k 1 (by decide) (by decide) (by decide)) (k 9 (by decide) (by decide) (by decide)), d3, k 9 (by decide) (by decide) (by decide), k 10 (by decide) (by decide) (by decide), cT_0 _ _ _ (by decide) (by decide), fun f _ _ _ => Sta.come V _ f⟩, ?_, ?_, ?_, ?_, ?_, ?_⟩
    · show ((M_X10_comesTo [mR (some 188), mI (nI e)] (rF I D G c, J)).bind _) = _
      rw [d1]
      rfl
    · show gV_X1_comeTo V (nI e) 1 e = 1
      rw [k 1 (by decide) (by decide) (by decide)]; exact e1
    · show gV_X1_comeTo V (nI e) 2 e = _
      rw [k 2 (by decide) (by decide) (by decide)]; exact e2
    · show gV_X1_comeTo V (nI e) 3 e = _
      rw [k 3 (by decide) (by decide) (by decide)]; exact e3
    · show gV_X1_comeTo V (nI e) 4 e = _
      rw [k 4 (by decide) (by decide) (by decide), pp5, e3]
    · show gV_X1_comeTo V (nI e) 4 p' = _
      rw [k 4 (by decide) (by decide) (by decide)]
    · show gV_X1_comeTo V (nI e) 1 p' = _
      rw [k 1 (by decide) (by decide) (by decide)]; exact p1
  | none =>
    rw [q] at fo
    rw [fo, if_pos (show oI none = -1 from rfl), if_pos (show oI none = -1 from rfl), if_pos (show oI none = -1 from rfl)]
    obtain ⟨e, lu⟩ := lu_ex C.le
    obtain ⟨e64, e0, _⟩ := lu_some lu
    have ep : p ≠ e := fun z => p0 (by rw [z]; exact e0)
    have no : q_X1_nodeOf V (nI p) = V 4 p := by
      unfold q_X1_nodeOf
      rw [Inv.isE p64 p0, if_neg i10, ix64 p64]
    have en := r.B.en p p64 p0
    have hq := ad_q lu (nI p) nm (q_X2_find U (V 4 p) nm)
    have ne : ¬ nI e = -1 := nI_m1 (by omega)
    rw [no, hq, if_neg ne, if_neg ne]
    obtain ⟨D1, d1, d2, d3, d4⟩ := r.makes n60 h I hw G c ht lu (fun v hv z => by
      have := (i.M.ok hv e64 z).2.2.1
      rw [e0] at this
      exact i01 this) (nI p) nm (q_X2_find U (V 4 p) nm) (Or.inl hn)
    have i1 := (i.add lu p64 p1 pf q tT).lo
    have r1 := d2.lo
    have a1 := ad_1 lu (nI p) nm (q_X2_find U (V 4 p) nm)
    have a2 := ad_2 lu (nI p) nm (q_X2_find U (V 4 p) nm)
    have a3 := ad_3 lu (nI p) nm (q_X2_find U (V 4 p) nm)
    have a4 := ad_4 lu (nI p) nm (q_X2_find U (V 4 p) nm)
    have a6 := ad_6 lu (nI p) nm (q_X2_find U (V 4 p) nm)
    have a8 := ad_8 lu (nI p) nm (q_X2_find U (V 4 p) nm)
    have a9 := ad_k lu (nI p) nm (q_X2_find U (V 4 p) nm) 9 (Or.inl rfl)
    have a10 := ad_k lu (nI p) nm (q_X2_find U (V 4 p) nm) 10 (Or.inr rfl)
    have al := ad_0 lu (nI p) nm (q_X2_find U (V 4 p) nm) 11 (by decide) (by decide)
    have atl : ∀ k, wk = some k → gV_X1_add V (nI p) nm (q_X2_find U (V 4 p) nm) 11 0 = nI e ∧ gV_X1_add V (nI p) nm (q_X2_find U (V 4 p) nm) 0 16 = nI 1 := fun k z => by
      have y := ad_tl lu (nI p) nm (q_X2_find U (V 4 p) nm) (ht k z).1 (by decide)
      exact ⟨by rw [y.2 0, if_pos rfl], y.1⟩
    generalize hA : gV_X1_add V (nI p) nm (q_X2_find U (V 4 p) nm) = A at d2 d3 i1 r1 a1 a2 a3 a4 a6 a8 a9 a10 al atl
    have hp : ∀ f, f < 64 → ¬ nI f = nI e → pnd wk (loV A) W f = 0 := by
      intro f hf hne
      rw [pnd_fr (V := A) (loV_0 A (by decide)) (loV_k A _ (by decide))]
      unfold pnd
      cases wk with
      | none => rfl
      | some w =>
        show (if bz ((W w).1 0 6) = 0 then 0 else _) = 0
        by_cases z : bz ((W w).1 0 6) = 0
        · rw [if_pos z]
        · rw [if_neg z, (atl w rfl).2, ix_nI (by decide)]
          show (if decide (A 11 0 = nI f) = true then 1 else 0) + 0 = 0
          rw [(atl w rfl).1, if_neg (by simp only [decide_eq_true_eq]; exact fun y => hne y.symm)]
    have B1 : ∀ j, loV A 1 j = if j = e then 1 else V 1 j := fun j => by rw [loV_k A 1 (by decide), a1]
    have B2 : ∀ j, loV A 2 j = if j = e then nI p else V 2 j := fun j => by rw [loV_k A 2 (by decide), a2]
    have B3 : ∀ j, loV A 3 j = if j = e then nm else V 3 j := fun j => by rw [loV_k A 3 (by decide), a3]
    have B4 : ∀ j, loV A 4 j = if j = e then q_X2_find U (V 4 p) nm else V 4 j := fun j => by rw [loV_k A 4 (by decide), a4]
    have B6 : ∀ j, loV A 6 j = if j = e then 0 else V 6 j := fun j => by rw [loV_k A 6 (by decide), a6]
    have B8 : ∀ j, loV A 8 j = if j = e then V 0 12 else V 8 j := fun j => by rw [loV_k A 8 (by decide), a8]
    have Btl : TlI wk (loV A) W 1 := fun k z => by
      obtain ⟨y1, y2⟩ := d3 k z
      exact ⟨by rw [loV_0 A (by decide)]; exact y1, y2⟩
    have B9 : loV A 9 = V 9 := by rw [loV_k A 9 (by decide), a9]
    have B10 : loV A 10 = V 10 := by rw [loV_k A 10 (by decide), a10]
    have Bl : loV A 0 11 = V 0 11 := by rw [loV_0 A (by decide), al]
    have em := w_entryMany h (rF I (sD D1 1 (D1 1 + 1)) G c) 0
    rw [rF_D, r1.many i1] at em
    have hB : uv A 0 13 (A 0 13 + 1) = loV A := rfl
    rw [hB]
    have bcnt := i1.nc_b
    have b64 : c_X1_howManyButRoots (loV A) ≤ 64 := cnt_le _ _ _
    have broots := i1.roots3
    obtain ⟨l, l1, l2, l3⟩ := i1.Z.li
    have rm3 : sD D1 1 (D1 1 + 1) 3 = nI l := r1.B.rm.trans l1
    generalize loV A = B at B1 B2 B3 B4 B6 B8 B9 B10 Bl Btl em bcnt b64 broots l1 i1 r1 hp
    have sh : gV_X1_shrink B (nI e) = lp_X1_shrink_12 (nI e) (nI (c_X1_howManyButRoots B) - nI l) (ix (nI (c_X1_howManyButRoots B) - nI l)) 0 B := by
      unfold gV_X1_shrink o_X1_shrink q_X1_howManyButRoots ql_X1_howManyButRoots
      rw [l1]
    have ixs : ix (nI (c_X1_howManyButRoots B) - nI l) = c_X1_howManyButRoots B - l := ix_sub (by omega) (by omega)
    obtain ⟨D', G', k', s1, s2, s3, s4, s5, s6, s7, s8⟩ := r1.trims i1 h I hb G c (nI e) (nI (c_X1_howManyButRoots B) - nI l) (nI (c_X1_howManyButRoots B) - nI l) (by rw [ixs]; omega) hp
    rw [← sh] at s2 s3 s4 s5 s6 s7 s8
    have xe : x e = 0 := (i.L e e64).1 e0
    have ne_x : ∀ f, ¬ x f = 0 → f ≠ e := fun f z y => z (by rw [y]; exact xe)
    have e1' : gV_X1_shrink B (nI e) 1 e = 1 := by rw [s5 e e64 rfl, B1, if_pos rfl]
    have e2' : gV_X1_shrink B (nI e) 2 e = nI p := by rw [s4.1 2 (by decide) (by decide) (by decide), B2, if_pos rfl]
    have hx' : ∀ f, f < 64 → ¬ x f = 0 → ¬ gV_X1_shrink B (nI e) 4 f = -1 := by
      intro f hf z
      rw [s4.1 4 (by decide) (by decide) (by decide), B4, if_neg (ne_x f z)]
      exact hx f hf z
    refine ⟨D', G', e, ?_, rfl, e64, ⟨s2, s3, ?_, ?_, ?_, ?_, ?_, ?_⟩, e1', e2', ?_, ?_, ?_, ?_⟩
    · simp only [w_its h _ 3 (show (3 : Int32) = nI 3 from rfl) (show p < 128 by omega) (by decide), Option.bind_some, asI_I, rF_D, en.2.2.1]
      have hni := w_nodeIn h (rF I D G c) (n := n) (by rw [rF_D, r.B.ev, i.N.ev]) n60 (V 4 p) ym
      rw [rF_D, r.eqn i.N (V 4 p) hn] at hni
      simp only [hni, Option.bind_some, asI_I, d1, h.f18, h.ldD _ (show (1 : Int32) = nI 1 from rfl) (by decide), h.stD _ _ (show (1 : Int32) = nI 1 from rfl) (by decide), rF_D, rF_sD, h.kt, if_true, em, h.ldD _ (show (3 : Int32) = nI 3 from rfl) (by decide), rm3, s1]
    · rcases s8 with z | z
      · refine CntI.of ?_
        rw [ixs] at z
        omega
      · exact CntI.of (s3.few hx' e64 z)
    · intro k z
      obtain ⟨y1, y2⟩ := Btl k z
      exact ⟨by rw [s4.2.1 16 (by decide)]; exact y1, y2⟩
    · rw [s4.1 9 (by decide) (by decide) (by decide)]; exact B9
    · rw [s4.1 10 (by decide) (by decide) (by decide)]; exact B10
    · rw [s4.2.1 11 (by decide)]; exact Bl
    · intro f hf f1 fx
      have fe := ne_x f fx
      have f1' : gV_X1_shrink B (nI e) 1 f = V 1 f := by
        rcases s4.2.2 f hf with z | z
        · exact absurd ((s3.L f hf).1 z) fx
        · rw [z, B1, if_neg fe]
      refine ⟨f1', ?_, ?_, ?_, ?_, ?_⟩
      · rw [s4.1 2 (by decide) (by decide) (by decide), B2, if_neg fe]
      · rw [s4.1 3 (by decide) (by decide) (by decide), B3, if_neg fe]
      · rw [s4.1 4 (by decide) (by decide) (by decide), B4, if_neg fe]
      · rw [s4.1 6 (by decide) (by decide) (by decide), B6, if_neg fe]
      · rw [s4.1 8 (by decide) (by decide) (by decide), B8, if_neg fe]
    · rw [s4.1 3 (by decide) (by decide) (by decide), B3, if_pos rfl]
    · rw [s4.1 4 (by decide) (by decide) (by decide), B4, if_pos rfl]
    · rw [s4.1 4 (by decide) (by decide) (by decide), B4, if_neg ep]
    · obtain ⟨p', pp1, pp2, pp3, _⟩ := s3.M.ch e e64 e1' (by rw [e2']; exact nI_m1 (by omega))
      have : p' = p := (nI_eq (by omega) (by omega)).mp (pp2.symm.trans e2')
      rw [this] at pp3
      exact pp3

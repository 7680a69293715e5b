/-! An entry is come to, or made, on both sides. -/
def cmD (D : RowV) (e : Nat) : RowV := sD (sD D (701 + 9 * e + 5) (D 0)) 0 (D 0 + 1)
def ntD (D : RowV) (w m e : Nat) : RowV := sD (sD (sD (sD D (17 + 96 * w + (18 + 3 * m)) (nI e)) (17 + 96 * w + (18 + 3 * m) + 1) (D (701 + 9 * e + 6))) (17 + 96 * w + (18 + 3 * m) + 2) (D (701 + 9 * e + 4))) (17 + 96 * w + 5) (nI (m + 1))
def cmN (wk : Option Nat) (m : Nat) (D : RowV) (e : Nat) : RowV := match wk with
  | none => cmD D e
  | some w => ntD (cmD D e) w m e
theorem comeD_rF (I : MI) (D G : RowV) (c : Int32) (e : Nat) : comeD (rF I D G c) e = rF I (cmD D e) G c := by
  unfold comeD cmD
  rw [rF_D, rF_sD, rF_sD]
theorem noteD_rF (I : MI) (D G : RowV) (c : Int32) (w m e : Nat) : noteD (rF I D G c) w m e = rF I (ntD D w m e) G c := by
  unfold noteD ntD
  rw [rF_D, rF_sD, rF_sD, rF_sD, rF_sD]
theorem w_come {J : MJ} (h : RefL J) (I : MI) (D G : RowV) (c : Int32) {wk : Option Nat} {m : Nat} (hw : I 188 21 = oI wk) (hm : ∀ k, wk = some k → k < 4 ∧ D (17 + 96 * k + 5) = nI m ∧ m < 25) {e : Nat} (he : e < 128) : M_X10_comesTo [mR (some 188), mI (nI e)] (rF I D G c, J) = some (none, (rF I (cmN wk m D e) G c, J)) := by
  cases wk with
  | none =>
    rw [w_comesTo0 h _ (by rw [rF_k _ _ _ _ (by decide)]; exact hw) he, comeD_rF]
    rfl
  | some w =>
    obtain ⟨w4, h5, m25⟩ := hm w rfl
    have d0 : sD D (701 + 9 * e + 5) (D 0) 0 = D 0 := sD_n _ _ (by omega)
    have d5 : cmD D e (17 + 96 * w + 5) = nI m := by
      unfold cmD
      rw [sD_n _ _ (by omega), sD_n _ _ (by omega)]
      exact h5
    rw [E_X10_comesTo]
    simp only [h.f18, Option.bind_some, w_entryAt _ e 5 (show (5 : Int32) = nI 5 from rfl), asI_I, h.ldD _ (show (0 : Int32) = nI 0 from rfl) (by decide), rF_D, h.stD _ _ rfl (show 701 + 9 * e + 5 < 1853 by omega), rF_sD, d0, h.stD _ _ (show (0 : Int32) = nI 0 from rfl) (by decide), h.kt, if_true]
    have nt := w_notes h (rF I (cmD D e) G c) (w := w) (m := m) (e := e) (by rw [rF_k _ _ _ _ (by decide)]; exact hw) w4 (by rw [rF_D]; exact d5) (by omega) he
    unfold cmD at nt
    rw [nt]
    simp only [Option.bind_some, asV_n]
    have := noteD_rF I (cmD D e) G c w m e
    unfold cmD at this
    rw [this]
    rfl
theorem cmN_o {wk : Option Nat} {m : Nat} (hm : ∀ k, wk = some k → k < 4 ∧ m < 25) (D : RowV) (e i : Nat) (hi : i < 17 ∨ 401 ≤ i) : cmN wk m D e i = cmD D e i := by
  cases wk with
  | none => rfl
  | some w =>
    have := hm w rfl
    show ntD (cmD D e) w m e i = _
    unfold ntD
    rw [sD_n _ _ (by omega), sD_n _ _ (by omega), sD_n _ _ (by omega), sD_n _ _ (by omega)]
theorem cmD_o (D : RowV) {e i : Nat} (h0 : i ≠ 0) (h1 : i ≠ 701 + 9 * e + 5) : cmD D e i = D i := by
  unfold cmD
  rw [sD_n _ _ h0, sD_n _ _ h1]
theorem cmD_0 (D : RowV) (e : Nat) : cmD D e 0 = D 0 + 1 := sD_s _ _ _
theorem cmD_5 (D : RowV) (e : Nat) : cmD D e (701 + 9 * e + 5) = D 0 := by
  unfold cmD
  rw [sD_n _ _ (by omega), sD_s]
theorem RelB.come {U : NodV} {V : MemV} {H : OneV} {D D' : RowV} {n : Nat} (b : RelB U V H D n) (n60 : n ≤ 60) {e : Nat} (he : e < 64) (h1 : ¬ V 1 e = 0) (hd : ∀ i, i < 17 ∨ 401 ≤ i → D' i = cmD D e i) : RelB U (gV_X1_comeTo V (nI e)) H D' n := by
  have k : ∀ r : Fin 12, r ≠ 0 → r ≠ 7 → r ≠ 11 → gV_X1_comeTo V (nI e) r = V r := cT_k V (nI e)
  have o : ∀ i, (i < 17 ∨ 401 ≤ i) → i ≠ 0 → i ≠ 701 + 9 * e + 5 → D' i = D i := fun i a b c => (hd i a).trans (cmD_o D b c)
  refine ⟨?_, ?_, ?_, ?_, ?_, ?_, ?_, ?_, ?_, ?_, ?_⟩
  · rw [hd 0 (by omega), cmD_0, cT_t V he, b.tk]
  · rw [o 1 (by omega) (by omega) (by omega), cT_0 _ _ _ (by decide) (by decide)]; exact b.lo
  · rw [o 2 (by omega) (by omega) (by omega), cT_0 _ _ _ (by decide) (by decide)]; exact b.tr
  · rw [o 3 (by omega) (by omega) (by omega), cT_0 _ _ _ (by decide) (by decide)]; exact b.rm
  · rw [o 4 (by omega) (by omega) (by omega)]; exact b.ev
  · intro v hv
    rw [o _ (by omega) (by omega) (by omega), k 9 (by decide) (by decide) (by decide)]; exact b.rt v hv
  · intro v hv
    rw [o _ (by omega) (by omega) (by omega), k 10 (by decide) (by decide) (by decide)]; exact b.ov v hv
  · intro v hv
    rw [o _ (by omega) (by omega) (by omega)]; exact b.ha v hv
  · intro j hj
    rw [o _ (by omega) (by omega) (by omega), o _ (by omega) (by omega) (by omega), o _ (by omega) (by omega) (by omega), o _ (by omega) (by omega) (by omega), o _ (by omega) (by omega) (by omega)]
    exact b.nd j hj
  · intro f hf
    rw [o _ (by omega) (by omega) (by omega), k 1 (by decide) (by decide) (by decide)]
    exact b.th f hf
  · intro f hf q
    rw [k 1 (by decide) (by decide) (by decide)] at q
    have en := b.en f hf q
    rw [o _ (by omega) (by omega) (by omega), o (701 + 9 * f + 2) (by omega) (by omega) (by omega), o (701 + 9 * f + 3) (by omega) (by omega) (by omega), o (701 + 9 * f + 4) (by omega) (by omega) (by omega), o (701 + 9 * f + 6) (by omega) (by omega) (by omega), o (701 + 9 * f + 7) (by omega) (by omega) (by omega), o (701 + 9 * f + 8) (by omega) (by omega) (by omega), k 1 (by decide) (by decide) (by decide), k 2 (by decide) (by decide) (by decide), k 3 (by decide) (by decide) (by decide), k 4 (by decide) (by decide) (by decide), k 6 (by decide) (by decide) (by decide), k 8 (by decide) (by decide) (by decide), cov_fr (k 10 (by decide) (by decide) (by decide)), cT_7 V he]
    refine ⟨en.1, en.2.1, en.2.2.1, en.2.2.2.1, ?_, en.2.2.2.2.2.1, en.2.2.2.2.2.2.1, en.2.2.2.2.2.2.2⟩
    by_cases z : f = e
    · subst z
      rw [if_pos rfl, hd _ (by omega), cmD_5, b.tk]
    · rw [if_neg z, o _ (by omega) (by omega) (by omega)]
      exact en.2.2.2.2.1
/-- the walker that goes has room for what it comes to -/
def TlI (wk : Option Nat) (V : MemV) (W : WkV) (tl : Nat) : Prop := ∀ k, wk = some k → V 0 16 = nI tl ∧ ∃ m, (W k).1 0 4 = nI m ∧ m ≤ 23
/-- the walkers' part, when the walker that goes notes where it came -/
theorem Rel.note {wk : Option Nat} {U : NodV} {V V' : MemV} {H : OneV} {W : WkV} {D D' : RowV} {n tl e : Nat} (r : Rel wk U V H W D n) (b : RelB U V' H D' n) (ht : TlI wk V W tl) (tl2 : tl < 2) (he : e < 64) (h0 : wk = none → ∀ i, 17 ≤ i → i < 401 → D' i = D i) (h1 : ∀ w m, wk = some w → (W w).1 0 4 = nI m → m ≤ 23 → D' (17 + 96 * w + 5) = nI (m + tl + 1) ∧ D' (17 + 96 * w + (18 + 3 * (m + tl))) = nI e ∧ D' (17 + 96 * w + (18 + 3 * (m + tl)) + 1) = V' 8 e ∧ D' (17 + 96 * w + (18 + 3 * (m + tl)) + 2) = V' 6 e ∧ (∀ i, 17 ≤ i → i < 401 → i ≠ 17 + 96 * w + 5 → i ≠ 17 + 96 * w + (18 + 3 * (m + tl)) → i ≠ 17 + 96 * w + (18 + 3 * (m + tl)) + 1 → i ≠ 17 + 96 * w + (18 + 3 * (m + tl)) + 2 → D' i = D i) ∧ V' 0 16 = nI (tl + 1) ∧ (∀ j, V' 11 j = if j = tl then nI e else V 11 j) ∧ ∀ f j, j < tl → V 11 j = nI f → f < 64 → V' 8 f = V 8 f ∧ V' 6 f = V 6 f) : Rel wk U V' H W D' n := by
  cases wk with
  | none => exact r.fr b (h0 rfl) (fun k z => by cases z)
  | some w =>
    obtain ⟨t1, m, t2, t3⟩ := ht w rfl
    obtain ⟨g1, g2, g3, g4, g5, g6, g7, g8⟩ := h1 w m rfl t2 t3
    obtain ⟨w4, m', tl', rT⟩ := r.T w rfl
    have mm : m' = m := (nI_eq (by have := rT.2.2.2.2.1; omega) (by omega)).mp (rT.2.1.symm.trans t2)
    have tt : tl' = tl := (nI_eq (by have := rT.2.2.2.1; omega) (by omega)).mp (rT.2.2.1.symm.trans t1)
    subst mm tt
    refine ⟨b, fun k hk => ?_, fun k hk q1 q2 => ?_, fun k hk => ?_⟩
    · have a := r.K k hk
      have ixw : ∀ j, k = w → j < ix ((W k).1 0 4) → j < m' := fun j z q => by
        rw [z, t2, ix_nI (by omega)] at q
        exact q
      refine ⟨?_, fun q => ?_, fun q j h1 h2 => ?_, fun q j h1 h2 => ?_⟩
      · rw [g5 _ (by omega) (by omega) (by omega) (by omega) (by omega) (by omega)]; exact a.ws
      · rw [g5 _ (by omega) (by omega) (by omega) (by omega) (by omega) (by omega), g5 _ (by omega) (by omega) (by omega) (by omega) (by omega) (by omega), g5 _ (by omega) (by omega) (by omega) (by omega) (by omega) (by omega), g5 _ (by omega) (by omega) (by omega) (by omega) (by omega) (by omega)]
        exact a.un q
      · rw [g5 _ (by omega) (by omega) (by omega) (by omega) (by omega) (by omega)]
        exact a.sp q j h1 h2
      · have hj : k = w → j < m' := fun z => ixw j z h2
        have b1 : 17 + 96 * k + (18 + 3 * j) ≠ 17 + 96 * w + (18 + 3 * (m' + tl')) ∧ 17 + 96 * k + (18 + 3 * j) ≠ 17 + 96 * w + (18 + 3 * (m' + tl')) + 1 ∧ 17 + 96 * k + (18 + 3 * j) ≠ 17 + 96 * w + (18 + 3 * (m' + tl')) + 2 ∧ 17 + 96 * k + (18 + 3 * j + 1) ≠ 17 + 96 * w + (18 + 3 * (m' + tl')) ∧ 17 + 96 * k + (18 + 3 * j + 1) ≠ 17 + 96 * w + (18 + 3 * (m' + tl')) + 1 ∧ 17 + 96 * k + (18 + 3 * j + 1) ≠ 17 + 96 * w + (18 + 3 * (m' + tl')) + 2 ∧ 17 + 96 * k + (18 + 3 * j + 2) ≠ 17 + 96 * w + (18 + 3 * (m' + tl')) ∧ 17 + 96 * k + (18 + 3 * j + 2) ≠ 17 + 96 * w + (18 + 3 * (m' + tl')) + 1 ∧ 17 + 96 * k + (18 + 3 * j + 2) ≠ 17 + 96 * w + (18 + 3 * (m' + tl')) + 2 := by
          by_cases z : k = w
          · have := hj z
            omega
          · omega
        obtain ⟨c1, c2, c3, c4, c5, c6, c7, c8, c9⟩ := b1
        rw [g5 _ (by omega) (by omega) (by omega) c1 c2 c3, g5 _ (by omega) (by omega) (by omega) c4 c5 c6, g5 _ (by omega) (by omega) (by omega) c7 c8 c9]
        exact a.wy q j h1 h2
    · have kw : k ≠ w := fun z => q2 (by rw [z])
      exact ⟨by rw [g5 _ (by omega) (by omega) (by omega) (by omega) (by omega) (by omega)]; exact r.M k hk q1 q2, r.R2 k hk q1 q2⟩
    · cases hk
      refine ⟨w4, m', tl' + 1, rT.1, t2, g6, by omega, by omega, ?_, fun j hj => ?_⟩
      · rw [g1, Nat.add_assoc]
      · by_cases z : j = tl'
        · subst z
          refine ⟨e, he, by rw [g7, if_pos rfl], g2, g3, g4⟩
        · obtain ⟨f, f1, f2, f3, f4, f5⟩ := rT.2.2.2.2.2.2 j (by omega)
          have y := g8 f j (by omega) f2 f1
          refine ⟨f, f1, by rw [g7, if_neg z]; exact f2, ?_, ?_, ?_⟩
          · rw [g5 _ (by omega) (by omega) (by omega) (by omega) (by omega) (by omega)]; exact f3
          · rw [g5 _ (by omega) (by omega) (by omega) (by omega) (by omega) (by omega), y.1]; exact f4
          · rw [g5 _ (by omega) (by omega) (by omega) (by omega) (by omega) (by omega), y.2]; exact f5
theorem Rel.mw {wk : Option Nat} {U : NodV} {V : MemV} {H : OneV} {W : WkV} {D : RowV} {n tl : Nat} (r : Rel wk U V H W D n) (ht : TlI wk V W tl) (tl2 : tl < 2) : ∃ m', ∀ k, wk = some k → k < 4 ∧ D (17 + 96 * k + 5) = nI m' ∧ m' < 25 ∧ ∃ m, (W k).1 0 4 = nI m ∧ m' = m + tl ∧ m ≤ 23 := by
  cases wk with
  | none => exact ⟨0, fun k z => by cases z⟩
  | some w =>
    obtain ⟨t1, m, t2, t3⟩ := ht w rfl
    obtain ⟨w4, m', tl', rT⟩ := r.T w rfl
    have mm : m' = m := (nI_eq (by have := rT.2.2.2.2.1; omega) (by omega)).mp (rT.2.1.symm.trans t2)
    have tt : tl' = tl := (nI_eq (by have := rT.2.2.2.1; omega) (by omega)).mp (rT.2.2.1.symm.trans t1)
    subst mm tt
    exact ⟨m' + tl', fun k z => by cases z; exact ⟨w4, rT.2.2.2.2.2.1, by omega, m', t2, rfl, t3⟩⟩
theorem ntD_at {D : RowV} {w m e : Nat} (w4 : w < 4) (m25 : m < 25) : ntD D w m e (17 + 96 * w + 5) = nI (m + 1) ∧ ntD D w m e (17 + 96 * w + (18 + 3 * m)) = nI e ∧ ntD D w m e (17 + 96 * w + (18 + 3 * m) + 1) = D (701 + 9 * e + 6) ∧ ntD D w m e (17 + 96 * w + (18 + 3 * m) + 2) = D (701 + 9 * e + 4) ∧ ∀ i, i ≠ 17 + 96 * w + 5 → i ≠ 17 + 96 * w + (18 + 3 * m) → i ≠ 17 + 96 * w + (18 + 3 * m) + 1 → i ≠ 17 + 96 * w + (18 + 3 * m) + 2 → ntD D w m e i = D i := by
  unfold ntD
  refine ⟨sD_s _ _ _, ?_, ?_, ?_, fun i a b c d => ?_⟩
  · rw [sD_n _ _ (by omega), sD_n _ _ (by omega), sD_n _ _ (by omega), sD_s]
  · rw [sD_n _ _ (by omega), sD_n _ _ (by omega), sD_s]
  · rw [sD_n _ _ (by omega), sD_s]
  · rw [sD_n _ _ a, sD_n _ _ d, sD_n _ _ c, sD_n _ _ b]
theorem Rel.come {wk : Option Nat} {U : NodV} {V : MemV} {H : OneV} {W : WkV} {D : RowV} {n tl : Nat} (r : Rel wk U V H W D n) (n60 : n ≤ 60) {J : MJ} (h : RefL J) (I : MI) (hw : I 188 21 = oI wk) (G : RowV) (c : Int32) (ht : TlI wk V W tl) (tl2 : tl < 2) {e : Nat} (he : e < 64) (e1 : ¬ V 1 e = 0) : ∃ D', M_X10_comesTo [mR (some 188), mI (nI e)] (rF I D G c, J) = some (none, (rF I D' G c, J)) ∧ Rel wk U (gV_X1_comeTo V (nI e)) H W D' n ∧ TlI wk (gV_X1_comeTo V (nI e)) W (tl + 1) ∧ ∀ i, 401 ≤ i → i < 701 → D' i = D i := by
  obtain ⟨m', hm⟩ := r.mw ht tl2
  have k : ∀ r : Fin 12, r ≠ 0 → r ≠ 7 → r ≠ 11 → gV_X1_comeTo V (nI e) r = V r := cT_k V (nI e)
  have hm2 : ∀ k, wk = some k → k < 4 ∧ m' < 25 := fun k z => ⟨(hm k z).1, (hm k z).2.2.1⟩
  refine ⟨cmN wk m' D e, w_come h I D G c hw (fun k z => ⟨(hm k z).1, (hm k z).2.1, (hm k z).2.2.1⟩) (by omega), ?_, ?_, ?_⟩
  · refine r.note (r.B.come n60 he e1 (fun i hi => cmN_o hm2 D e i hi)) ht tl2 he ?_ ?_
    · intro z i h1 h2
      subst z
      exact cmD_o D (by omega) (by omega)
    · intro w m z hmw m23
      subst z
      obtain ⟨w4, _, m25, m1, e1', e2, e3⟩ := hm w rfl
      have mm : m1 = m := (nI_eq (by omega) (by omega)).mp (e1'.symm.trans hmw)
      subst mm e2
      obtain ⟨y1, y2, y3, y4, y5⟩ := ntD_at (D := cmD D e) (w := w) (m := m1 + tl) (e := e) w4 m25
      have en := r.B.en e he e1
      refine ⟨y1, y2, ?_, ?_, fun i h1 h2 h3 h4 h5 h6 => ?_, (cT_tl V he (ht w rfl).1 tl2).1, (cT_tl V he (ht w rfl).1 tl2).2, fun f j _ _ _ => ?_⟩
      · show ntD (cmD D e) w (m1 + tl) e _ = _
        rw [y3, cmD_o D (by omega) (by omega), k 8 (by decide) (by decide) (by decide)]
        exact en.2.2.2.2.2.1
      · show ntD (cmD D e) w (m1 + tl) e _ = _
        rw [y4, cmD_o D (by omega) (by omega), k 6 (by decide) (by decide) (by decide)]
        exact en.2.2.2.1
      · show ntD (cmD D e) w (m1 + tl) e _ = _
        rw [y5 i h3 h4 h5 h6, cmD_o D (by omega) (by omega)]
      · rw [k 8 (by decide) (by decide) (by decide), k 6 (by decide) (by decide) (by decide)]
        exact ⟨rfl, rfl⟩
  · intro k z
    obtain ⟨t1, m, t2, t3⟩ := ht k z
    exact ⟨(cT_tl V he t1 tl2).1, m, t2, t3⟩
  · intro i h1 h2
    rw [cmN_o hm2 D e i (by omega), cmD_o D (by omega) (by omega)]
def mkD (D : RowV) (e : Nat) (x1 x2 x3 : Int32) : RowV := sD (sD (sD (sD (sD (sD (sD (sD D (701 + 9 * e + 0) 1) (701 + 9 * e + 1) x1) (701 + 9 * e + 2) x2) (701 + 9 * e + 3) x3) (701 + 9 * e + 4) 0) (701 + 9 * e + 6) (D 0)) (701 + 9 * e + 7) (-1)) (701 + 9 * e + 8) 0
theorem mk0_rF (I : MI) (D G : RowV) (c : Int32) (e : Nat) (x1 x2 x3 : Int32) : mk0 (rF I D G c) e x1 x2 x3 = rF I (mkD D e x1 x2 x3) G c := by
  unfold mk0 mkD
  rw [rF_D, rF_sD, rF_sD, rF_sD, rF_sD, rF_sD, rF_sD, rF_sD, rF_sD]
theorem mkD_o (D : RowV) {e : Nat} (x1 x2 x3 : Int32) {i : Nat} (h : i < 701 + 9 * e ∨ 701 + 9 * e + 9 ≤ i) : mkD D e x1 x2 x3 i = D i := by
  unfold mkD
  rw [sD_n _ _ (by omega), sD_n _ _ (by omega), sD_n _ _ (by omega), sD_n _ _ (by omega), sD_n _ _ (by omega), sD_n _ _ (by omega), sD_n _ _ (by omega), sD_n _ _ (by omega)]
theorem mkD_at (D : RowV) (e : Nat) (x1 x2 x3 : Int32) : mkD D e x1 x2 x3 (701 + 9 * e + 0) = 1 ∧ mkD D e x1 x2 x3 (701 + 9 * e + 1) = x1 ∧ mkD D e x1 x2 x3 (701 + 9 * e + 2) = x2 ∧ mkD D e x1 x2 x3 (701 + 9 * e + 3) = x3 ∧ mkD D e x1 x2 x3 (701 + 9 * e + 4) = 0 ∧ mkD D e x1 x2 x3 (701 + 9 * e + 6) = D 0 ∧ mkD D e x1 x2 x3 (701 + 9 * e + 7) = -1 ∧ mkD D e x1 x2 x3 (701 + 9 * e + 8) = 0 := by
  unfold mkD
  refine ⟨?_, ?_, ?_, ?_, ?_, ?_, ?_, sD_s _ _ _⟩
  · rw [sD_n _ _ (by omega), sD_n _ _ (by omega), sD_n _ _ (by omega), sD_n _ _ (by omega), sD_n _ _ (by omega), sD_n _ _ (by omega), sD_n _ _ (by omega), sD_s]
  · rw [sD_n _ _ (by omega), sD_n _ _ (by omega), sD_n _ _ (by omega), sD_n _ _ (by omega), sD_n _ _ (by omega), sD_n _ _ (by omega), sD_s]
  · rw [sD_n _ _ (by omega), sD_n _ _ (by omega), sD_n _ _ (by omega), sD_n _ _ (by omega), sD_n _ _ (by omega), sD_s]
  · rw [sD_n _ _ (by omega), sD_n _ _ (by omega), sD_n _ _ (by omega), sD_n _ _ (by omega), sD_s]
  · rw [sD_n _ _ (by omega), sD_n _ _ (by omega), sD_n _ _ (by omega), sD_s]
  · rw [sD_n _ _ (by omega), sD_n _ _ (by omega), sD_s]
  · rw [sD_n _ _ (by omega), sD_s]
theorem RelB.lu {U : NodV} {V : MemV} {H : OneV} {D : RowV} {n : Nat} (b : RelB U V H D n) {e : Nat} (lu : f_X1_leastUnused V = some e) : fst? (fun e => !thQ D e) 0 128 = some e := by
  obtain ⟨e64, e0, e1⟩ := lu_some lu
  refine fst_is (Nat.zero_le _) (by omega) ?_ (fun j _ hj => ?_)
  · unfold thQ
    rw [b.th0 (by omega) (fun _ => e0)]
    decide
  · unfold thQ
    rw [b.th1 (by omega) (e1 j hj)]
    decide
/-- an entry made: the cover is asked for in the new memory, where it is none -/
theorem RelB.add {U : NodV} {V : MemV} {H : OneV} {D D' : RowV} {n : Nat} (b : RelB U V H D n) (n60 : n ≤ 60) {e : Nat} (lu : f_X1_leastUnused V = some e) (hc : ∀ v, v < 3 → ¬ V 10 v = nI e) {x1 x2 x3 y2 : Int32} (hn : NmZ x2 y2) (hd : ∀ i, i < 17 ∨ 401 ≤ i → D' i = cmD (mkD D e x1 y2 x3) e i) : RelB U (gV_X1_add V x1 x2 x3) H D' n := by
  obtain ⟨e64, e0, _⟩ := lu_some lu
  have o : ∀ i, (i < 17 ∨ 401 ≤ i) → i ≠ 0 → (i < 701 + 9 * e ∨ 701 + 9 * e + 9 ≤ i) → D' i = D i := fun i a b c => by
    rw [hd i a, cmD_o _ b (by omega), mkD_o D x1 y2 x3 c]
  have o' : ∀ i, (i < 17 ∨ 401 ≤ i) → i ≠ 0 → i ≠ 701 + 9 * e + 5 → D' i = mkD D e x1 y2 x3 i := fun i a b c => by
    rw [hd i a, cmD_o _ b c]
  have m0 : mkD D e x1 y2 x3 0 = D 0 := mkD_o D x1 y2 x3 (by omega)
  obtain ⟨k0, k1, k2, k3, k4, k6, k7, k8⟩ := mkD_at D e x1 y2 x3
  have a9 := ad_k lu x1 x2 x3 9 (Or.inl rfl)
  have a10 := ad_k lu x1 x2 x3 10 (Or.inr rfl)
  have cov : q_X1_coveringVolume V (nI e) = -1 := by
    unfold q_X1_coveringVolume ql_X1_coveringVolume f_X1_coveringVolume
    rw [fst_no (fun v _ hv => by rw [if_neg (nI_m1 (by omega)), if_neg (hc v (by omega))])]
    rfl
  refine ⟨?_, ?_, ?_, ?_, ?_, ?_, ?_, ?_, ?_, ?_, ?_⟩
  · rw [hd 0 (by omega), cmD_0, m0, ad_t lu, b.tk]
  · rw [o 1 (by omega) (by omega) (by omega), ad_0 lu _ _ _ _ (by decide) (by decide)]; exact b.lo
  · rw [o 2 (by omega) (by omega) (by omega), ad_0 lu _ _ _ _ (by decide) (by decide)]; exact b.tr
  · rw [o 3 (by omega) (by omega) (by omega), ad_0 lu _ _ _ _ (by decide) (by decide)]; exact b.rm
  · rw [o 4 (by omega) (by omega) (by omega)]; exact b.ev
  · intro v hv
    rw [o _ (by omega) (by omega) (by omega), a9]; exact b.rt v hv
  · intro v hv
    rw [o _ (by omega) (by omega) (by omega), a10]; exact b.ov v hv
  · intro v hv
    rw [o _ (by omega) (by omega) (by omega)]; exact b.ha v hv
  · intro j hj
    rw [o _ (by omega) (by omega) (by omega), o _ (by omega) (by omega) (by omega), o _ (by omega) (by omega) (by omega), o _ (by omega) (by omega) (by omega), o _ (by omega) (by omega) (by omega)]
    exact b.nd j hj
  · intro f hf
    rw [ad_1 lu]
    by_cases z : f = e
    · subst z
      rw [o' _ (by omega) (by omega) (by omega), k0, if_pos rfl, if_pos ⟨e64, i10⟩]
    · rw [if_neg z, o _ (by omega) (by omega) (by omega)]
      exact b.th f hf
  · intro f hf q
    rw [ad_1 lu, ad_2 lu, ad_3 lu, ad_4 lu, ad_6 lu, ad_7 lu, ad_8 lu, cov_fr a10]
    by_cases z : f = e
    · subst z
      rw [if_pos rfl, if_pos rfl, if_pos rfl, if_pos rfl, if_pos rfl, if_pos rfl, if_pos rfl, cov, o' _ (by omega) (by omega) (by omega), o' (701 + 9 * f + 2) (by omega) (by omega) (by omega), o' (701 + 9 * f + 3) (by omega) (by omega) (by omega), o' (701 + 9 * f + 4) (by omega) (by omega) (by omega), o' (701 + 9 * f + 6) (by omega) (by omega) (by omega), o' (701 + 9 * f + 7) (by omega) (by omega) (by omega), o' (701 + 9 * f + 8) (by omega) (by omega) (by omega), k1, k2, k3, k4, k6, k7, k8, hd _ (by omega), cmD_5, m0, b.tk, if_neg i12]
      exact ⟨rfl, hn, rfl, rfl, rfl, rfl, rfl, rfl⟩
    · rw [ad_1 lu, if_neg z] at q
      rw [if_neg z, if_neg z, if_neg z, if_neg z, if_neg z, if_neg z, if_neg z, o _ (by omega) (by omega) (by omega), o _ (by omega) (by omega) (by omega), o _ (by omega) (by omega) (by omega), o _ (by omega) (by omega) (by omega), o _ (by omega) (by omega) (by omega), o _ (by omega) (by omega) (by omega), o _ (by omega) (by omega) (by omega), o _ (by omega) (by omega) (by omega)]
      exact b.en f hf q
theorem Rel.makes {wk : Option Nat} {U : NodV} {V : MemV} {H : OneV} {W : WkV} {D : RowV} {n : Nat} (r : Rel wk U V H W D n) (n60 : n ≤ 60) {J : MJ} (h : RefL J) (I : MI) (hw : I 188 21 = oI wk) (G : RowV) (c : Int32) (ht : TlI wk V W 0) {e : Nat} (lu : f_X1_leastUnused V = some e) (hc : ∀ v, v < 3 → ¬ V 10 v = nI e) (x1 x2 x3 : Int32) {y2 : Int32} (hn : NmZ x2 y2) : ∃ D', M_X10_makes [mR (some 188), mI x1, mI y2, mI x3] (rF I D G c, J) = some (some (mI (nI e)), (rF I D' G c, J)) ∧ Rel wk U (gV_X1_add V x1 x2 x3) H W D' n ∧ TlI wk (gV_X1_add V x1 x2 x3) W 1 ∧ ∀ i, 401 ≤ i → i < 701 → D' i = D i := by
  obtain ⟨m', hm⟩ := r.mw ht (by decide)
  obtain ⟨e64, e0, _⟩ := lu_some lu
  have hm2 : ∀ k, wk = some k → k < 4 ∧ m' < 25 := fun k z => ⟨(hm k z).1, (hm k z).2.2.1⟩
  obtain ⟨k0, k1, k2, k3, k4, k6, k7, k8⟩ := mkD_at D e x1 y2 x3
  have wc := w_come h I (mkD D e x1 y2 x3) G c (wk := wk) (m := m') hw (fun k z => ⟨(hm k z).1, by rw [mkD_o D x1 y2 x3 (by have := (hm k z).1; omega)]; exact (hm k z).2.1, (hm k z).2.2.1⟩) (e := e) (by omega)
  refine ⟨cmN wk m' (mkD D e x1 y2 x3) e, ?_, ?_, ?_, ?_⟩
  · refine w_makes h (rF I D G c) x1 y2 x3 (by rw [rF_D]; exact r.B.lu lu) ?_
    rw [mk0_rF]
    exact wc
  · refine r.note (tl := 0) (r.B.add n60 lu hc hn (fun i hi => cmN_o hm2 _ e i hi)) ht (by decide) e64 ?_ ?_
    · intro z i h1 h2
      subst z
      show cmD (mkD D e x1 y2 x3) e i = D i
      rw [cmD_o _ (by omega) (by omega), mkD_o D x1 y2 x3 (by omega)]
    · intro w m z hmw m23
      subst z
      obtain ⟨w4, _, m25, m1, e1', e2, e3⟩ := hm w rfl
      have mm : m1 = m := (nI_eq (by omega) (by omega)).mp (e1'.symm.trans hmw)
      subst mm e2
      obtain ⟨y1, y2', y3, y4, y5⟩ := ntD_at (D := cmD (mkD D e x1 y2 x3) e) (w := w) (m := m' + 0) (e := e) w4 m25
      have tl' := ad_tl lu x1 x2 x3 (ht w rfl).1 (by decide)
      refine ⟨y1, y2', ?_, ?_, fun i h1 h2 h3 h4 h5 h6 => ?_, tl'.1, tl'.2, fun f j hj _ _ => by omega⟩
      · show ntD (cmD (mkD D e x1 y2 x3) e) w (m' + 0) e _ = _
        rw [y3, cmD_o _ (by omega) (by omega), k6, ad_8 lu, if_pos rfl, r.B.tk]
      · show ntD (cmD (mkD D e x1 y2 x3) e) w (m' + 0) e _ = _
        rw [y4, cmD_o _ (by omega) (by omega), k4, ad_6 lu, if_pos rfl]
      · show ntD (cmD (mkD D e x1 y2 x3) e) w (m' + 0) e _ = _
        rw [y5 i h3 h4 h5 h6, cmD_o _ (by omega) (by omega), mkD_o D x1 y2 x3 (by omega)]
  · intro k z
    obtain ⟨t1, m, t2, t3⟩ := ht k z
    exact ⟨(ad_tl lu x1 x2 x3 t1 (by decide)).1, m, t2, t3⟩
  · intro i h1 h2
    rw [cmN_o hm2 _ e i (by omega), cmD_o _ (by omega) (by omega), mkD_o D x1 y2 x3 (by omega)]

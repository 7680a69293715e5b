/-! A volume mounted, on both sides. -/
/-- what the class's cover does, row by row -/
theorem cover_rows {U : NodV} {V : MemV} {v a e : Nat} (v3 : v < 3) (a64 : a < 64) (a0 : ¬ V 1 a = 0) (lu : f_X1_leastUnused V = some e) {r : Int32} (hr : q_X2_rootOf U (nI v) = r) : q_X1_cover U V (nI a) (nI v) = nI e ∧ (∀ j, gV_X1_cover U V (nI a) (nI v) 1 j = if j = e then 1 else V 1 j) ∧ (∀ j, gV_X1_cover U V (nI a) (nI v) 2 j = if j = e then -1 else V 2 j) ∧ (∀ j, gV_X1_cover U V (nI a) (nI v) 3 j = if j = e then 0 else V 3 j) ∧ (∀ j, gV_X1_cover U V (nI a) (nI v) 4 j = if j = e then r else V 4 j) ∧ (∀ j, gV_X1_cover U V (nI a) (nI v) 5 j = if j = e then 0 else if j = a then V 5 a + 1 else V 5 j) ∧ (∀ j, gV_X1_cover U V (nI a) (nI v) 6 j = if j = e then 0 else if j = a then V 6 a + 1 else V 6 j) ∧ (∀ j, gV_X1_cover U V (nI a) (nI v) 7 j = if j = e then V 0 12 else V 7 j) ∧ (∀ j, gV_X1_cover U V (nI a) (nI v) 8 j = if j = e then V 0 12 else V 8 j) ∧ (∀ j, gV_X1_cover U V (nI a) (nI v) 9 j = if j = v then nI e else V 9 j) ∧ (∀ j, gV_X1_cover U V (nI a) (nI v) 10 j = if j = v then nI a else V 10 j) ∧ gV_X1_cover U V (nI a) (nI v) 0 11 = V 0 11 ∧ gV_X1_cover U V (nI a) (nI v) 0 12 = V 0 12 + 1 ∧ gV_X1_cover U V (nI a) (nI v) 0 13 = V 0 13 ∧ gV_X1_cover U V (nI a) (nI v) 0 14 = V 0 14 := by
  have c0 : ∀ q : Fin 12, q ≠ 5 → q ≠ 6 → q ≠ 10 → gV_X1_hold (uv (uv V 10 v (nI a)) 6 a (V 6 a + 1)) (nI a) q = V q := fun q h5 h6 h10 => by
    rw [ho_k _ _ _ h5, uv_k _ _ _ _ _ h6, uv_k _ _ _ _ _ h10]
  have lu' : f_X1_leastUnused (gV_X1_hold (uv (uv V 10 v (nI a)) 6 a (V 6 a + 1)) (nI a)) = some e := by
    rw [← lu]
    unfold f_X1_leastUnused
    rw [c0 1 (by decide) (by decide) (by decide)]
  have ex : q_X1_cover U V (nI a) (nI v) = nI e ∧ gV_X1_cover U V (nI a) (nI v) = uv (gV_X1_add (gV_X1_hold (uv (uv V 10 v (nI a)) 6 a (V 6 a + 1)) (nI a)) (-1) 0 r) 9 v (nI e) := by
    unfold q_X1_cover gV_X1_cover
    rw [Inv.isE a64 a0, if_neg i10, if_neg i10, if_neg (nI_pos (show v < 2 ^ 31 by omega)), if_neg (nI_pos (show v < 2 ^ 31 by omega)), if_pos (show nI v < 3 from nI_lt (b := 3) v3 (by decide)), if_pos (show nI v < 3 from nI_lt (b := 3) v3 (by decide)), ix_nI (by omega), ix_nI (by omega), hr, ad_q lu']
    exact ⟨rfl, rfl⟩
  rw [ex.2]
  have k9 : ∀ (A : MemV) (q : Fin 12), q ≠ 9 → uv A 9 v (nI e) q = A q := fun A q hq => uv_k _ _ _ _ _ hq
  refine ⟨ex.1, fun j => ?_, fun j => ?_, fun j => ?_, fun j => ?_, fun j => ?_, fun j => ?_, fun j => ?_, fun j => ?_, fun j => ?_, fun j => ?_, ?_, ?_, ?_, ?_⟩
  · rw [k9 _ _ (by decide), ad_1 lu', c0 1 (by decide) (by decide) (by decide)]
  · rw [k9 _ _ (by decide), ad_2 lu', c0 2 (by decide) (by decide) (by decide)]
  · rw [k9 _ _ (by decide), ad_3 lu', c0 3 (by decide) (by decide) (by decide)]
  · rw [k9 _ _ (by decide), ad_4 lu', c0 4 (by decide) (by decide) (by decide)]
  · rw [k9 _ _ (by decide), ad_5r lu', ho_5 _ a64, uv_k _ _ _ _ _ (by decide), uv_k _ _ _ _ _ (by decide)]
  · rw [k9 _ _ (by decide), ad_6 lu', ho_k _ _ _ (by decide)]
    by_cases z : j = a
    · rw [z, uv_s, if_pos rfl]
    · rw [uv_n _ _ _ _ _ _ (fun w => z w.2), uv_k _ _ _ _ _ (by decide), if_neg z]
  · rw [k9 _ _ (by decide), ad_7 lu', c0 7 (by decide) (by decide) (by decide), c0 0 (by decide) (by decide) (by decide)]
  · rw [k9 _ _ (by decide), ad_8 lu', c0 8 (by decide) (by decide) (by decide), c0 0 (by decide) (by decide) (by decide)]
  · by_cases z : j = v
    · rw [z, uv_s, if_pos rfl]
    · rw [uv_n _ _ _ _ _ _ (fun w => z w.2), ad_k lu' _ _ _ 9 (Or.inl rfl), c0 9 (by decide) (by decide) (by decide), if_neg z]
  · rw [k9 _ _ (by decide), ad_k lu' _ _ _ 10 (Or.inr rfl), ho_k _ _ _ (by decide), uv_k _ _ _ _ _ (by decide)]
    by_cases z : j = v
    · rw [z, uv_s, if_pos rfl]
    · rw [uv_n _ _ _ _ _ _ (fun w => z w.2), if_neg z]
  · rw [k9 _ _ (by decide), ad_0 lu' _ _ _ _ (by decide) (by decide), c0 0 (by decide) (by decide) (by decide)]
  · rw [k9 _ _ (by decide), ad_t lu', c0 0 (by decide) (by decide) (by decide)]
  · rw [k9 _ _ (by decide), ad_0 lu' _ _ _ _ (by decide) (by decide), c0 0 (by decide) (by decide) (by decide)]
  · rw [k9 _ _ (by decide), ad_0 lu' _ _ _ _ (by decide) (by decide), c0 0 (by decide) (by decide) (by decide)]
def moD (D : RowV) (v a e : Nat) (r : Int32) : RowV := sD (sD (cmD (mkD (sD (sD D (701 + 9 * a + 7) (nI v)) (701 + 9 * a + 4) (D (701 + 9 * a + 4) + 1)) e (-1) 0 r) e) (5 + v) (nI e)) (8 + v) (nI a)
theorem moD_o (D : RowV) {v a e : Nat} (r : Int32) {j : Nat} (h0 : j ≠ 0) (he : j < 701 + 9 * e ∨ 701 + 9 * e + 9 ≤ j) (h5 : j ≠ 5 + v) (h8 : j ≠ 8 + v) (h7 : j ≠ 701 + 9 * a + 7) (h4 : j ≠ 701 + 9 * a + 4) : moD D v a e r j = D j := by
  unfold moD
  rw [sD_n _ _ h8, sD_n _ _ h5, cmD_o _ h0 (by omega), mkD_o _ _ _ _ he, sD_n _ _ h4, sD_n _ _ h7]
theorem moD_at (D : RowV) {v a e : Nat} (v3 : v < 3) (ae : a ≠ e) (r : Int32) : moD D v a e r 0 = D 0 + 1 ∧ moD D v a e r (5 + v) = nI e ∧ moD D v a e r (8 + v) = nI a ∧ moD D v a e r (701 + 9 * a + 7) = nI v ∧ moD D v a e r (701 + 9 * a + 4) = D (701 + 9 * a + 4) + 1 ∧ moD D v a e r (701 + 9 * e + 0) = 1 ∧ moD D v a e r (701 + 9 * e + 1) = -1 ∧ moD D v a e r (701 + 9 * e + 2) = 0 ∧ moD D v a e r (701 + 9 * e + 3) = r ∧ moD D v a e r (701 + 9 * e + 4) = 0 ∧ moD D v a e r (701 + 9 * e + 5) = D 0 ∧ moD D v a e r (701 + 9 * e + 6) = D 0 ∧ moD D v a e r (701 + 9 * e + 7) = -1 ∧ moD D v a e r (701 + 9 * e + 8) = 0 := by
  unfold moD
  obtain ⟨k0, k1, k2, k3, k4, k6, k7, k8⟩ := mkD_at (sD (sD D (701 + 9 * a + 7) (nI v)) (701 + 9 * a + 4) (D (701 + 9 * a + 4) + 1)) e (-1) 0 r
  have d0 : sD (sD D (701 + 9 * a + 7) (nI v)) (701 + 9 * a + 4) (D (701 + 9 * a + 4) + 1) 0 = D 0 := by rw [sD_n _ _ (by omega), sD_n _ _ (by omega)]
  have m0 : mkD (sD (sD D (701 + 9 * a + 7) (nI v)) (701 + 9 * a + 4) (D (701 + 9 * a + 4) + 1)) e (-1) 0 r 0 = D 0 := by rw [mkD_o _ _ _ _ (by omega), d0]
  refine ⟨?_, ?_, sD_s _ _ _, ?_, ?_, ?_, ?_, ?_, ?_, ?_, ?_, ?_, ?_, ?_⟩
  · rw [sD_n _ _ (by omega), sD_n _ _ (by omega), cmD_0, m0]
  · rw [sD_n _ _ (by omega), sD_s]
  · rw [sD_n _ _ (by omega), sD_n _ _ (by omega), cmD_o _ (by omega) (by omega), mkD_o _ _ _ _ (by omega), sD_n _ _ (by omega), sD_s]
  · rw [sD_n _ _ (by omega), sD_n _ _ (by omega), cmD_o _ (by omega) (by omega), mkD_o _ _ _ _ (by omega), sD_s]
  · rw [sD_n _ _ (by omega), sD_n _ _ (by omega), cmD_o _ (by omega) (by omega), k0]
  · rw [sD_n _ _ (by omega), sD_n _ _ (by omega), cmD_o _ (by omega) (by omega), k1]
  · rw [sD_n _ _ (by omega), sD_n _ _ (by omega), cmD_o _ (by omega) (by omega), k2]
  · rw [sD_n _ _ (by omega), sD_n _ _ (by omega), cmD_o _ (by omega) (by omega), k3]
  · rw [sD_n _ _ (by omega), sD_n _ _ (by omega), cmD_o _ (by omega) (by omega), k4]
  · rw [sD_n _ _ (by omega), sD_n _ _ (by omega), cmD_5, m0]
  · rw [sD_n _ _ (by omega), sD_n _ _ (by omega), cmD_o _ (by omega) (by omega), k6, d0]
  · rw [sD_n _ _ (by omega), sD_n _ _ (by omega), cmD_o _ (by omega) (by omega), k7]
  · rw [sD_n _ _ (by omega), sD_n _ _ (by omega), cmD_o _ (by omega) (by omega), k8]
theorem Rel.mount {U : NodV} {V V' : MemV} {H : OneV} {W : WkV} {D : RowV} {n vol t T : Nat} (r : Rel none U V H W D n) (i : Inv U V H W n vol t T (fun _ => 0)) {v a e : Nat} (v3 : v < 3) (m10 : V 10 v = -1) (a64 : a < 64) (a0 : ¬ V 1 a = 0) (vc : ∀ w, w < 3 → ¬ V 10 w = nI a) (e64 : e < 64) (e0 : V 1 e = 0) {rn : Int32} (a1 : ∀ j, V' 1 j = if j = e then 1 else V 1 j) (a2 : ∀ j, V' 2 j = if j = e then -1 else V 2 j) (a3 : ∀ j, V' 3 j = if j = e then 0 else V 3 j) (a4 : ∀ j, V' 4 j = if j = e then rn else V 4 j) (a6 : ∀ j, V' 6 j = if j = e then 0 else if j = a then V 6 a + 1 else V 6 j) (a7 : ∀ j, V' 7 j = if j = e then V 0 12 else V 7 j) (a8 : ∀ j, V' 8 j = if j = e then V 0 12 else V 8 j) (a9 : ∀ j, V' 9 j = if j = v then nI e else V 9 j) (a10 : ∀ j, V' 10 j = if j = v then nI a else V 10 j) (b11 : V' 0 11 = V 0 11) (b12 : V' 0 12 = V 0 12 + 1) (b13 : V' 0 13 = V 0 13) (b14 : V' 0 14 = V 0 14) : Rel none U V' H W (moD D v a e rn) n := by
  have n60 := i.N.n60
  have ae : a ≠ e := fun z => a0 (by rw [z]; exact e0)
  obtain ⟨d0, d5, d8, da7, da4, x0, x1, x2, x3, x4, x5, x6, x7, x8⟩ := moD_at D (e := e) v3 ae rn
  have o := fun {j} h0 he h5 h8 h7 h4 => moD_o D (v := v) (a := a) (e := e) rn (j := j) h0 he h5 h8 h7 h4
  generalize moD D v a e rn = D2 at d0 d5 d8 da7 da4 x0 x1 x2 x3 x4 x5 x6 x7 x8 o ⊢
  have b := r.B
  have cvn : ∀ f, f < 64 → f ≠ a → q_X1_coveringVolume V' (nI f) = q_X1_coveringVolume V (nI f) := fun f hf z => by
    have : f_X1_coveringVolume V' (nI f) = f_X1_coveringVolume V (nI f) := by
      unfold f_X1_coveringVolume
      refine fst_cong (fun w _ hw => ?_)
      rw [a10]
      by_cases y : w = v
      · have q1 : ¬ nI a = nI f := fun q => z ((nI_eq (by omega) (by omega)).mp q).symm
        have q2 : ¬ (-1 : Int32) = nI f := fun q => nI_m1 (show f < 2 ^ 31 by omega) q.symm
        rw [if_pos y, y, m10, if_neg q1, if_neg q2]
      · rw [if_neg y]
    show oI (f_X1_coveringVolume V' (nI f)) = oI (f_X1_coveringVolume V (nI f))
    rw [this]
  have cva : q_X1_coveringVolume V' (nI a) = nI v := by
    have : f_X1_coveringVolume V' (nI a) = some v := by
      unfold f_X1_coveringVolume
      refine fst_is (Nat.zero_le _) (by omega) ?_ (fun w _ hw => ?_)
      · rw [if_neg (nI_m1 (by omega)), a10, if_pos rfl, if_pos rfl]
      · rw [if_neg (nI_m1 (by omega)), a10, if_neg (show ¬ w = v by omega), if_neg (vc w (by omega))]
    show oI (f_X1_coveringVolume V' (nI a)) = nI v
    rw [this]
    rfl
  have cve : q_X1_coveringVolume V (nI e) = -1 := (cv_m e64).mpr (fun w hw q => by
    have := (i.M.ok hw e64 q).2.2.1
    rw [e0] at this
    exact absurd this (by decide))
  refine r.fr ⟨?_, ?_, ?_, ?_, ?_, ?_, ?_, ?_, ?_, ?_, ?_⟩ (fun j h1 h2 => o (by omega) (by omega) (by omega) (by omega) (by omega) (by omega)) (fun k z => by cases z)
  · rw [d0, b12, b.tk]
  · rw [o (by omega) (by omega) (by omega) (by omega) (by omega) (by omega), b13]; exact b.lo
  · rw [o (by omega) (by omega) (by omega) (by omega) (by omega) (by omega), b14]; exact b.tr
  · rw [o (by omega) (by omega) (by omega) (by omega) (by omega) (by omega), b11]; exact b.rm
  · rw [o (by omega) (by omega) (by omega) (by omega) (by omega) (by omega)]; exact b.ev
  · intro w hw
    rw [a9]
    by_cases z : w = v
    · rw [if_pos z, z, d5]
    · rw [if_neg z, o (by omega) (by omega) (by omega) (by omega) (by omega) (by omega)]; exact b.rt w hw
  · intro w hw
    rw [a10]
    by_cases z : w = v
    · rw [if_pos z, z, d8]
    · rw [if_neg z, o (by omega) (by omega) (by omega) (by omega) (by omega) (by omega)]; exact b.ov w hw
  · intro j hj
    rw [o (by omega) (by omega) (by omega) (by omega) (by omega) (by omega)]; exact b.ha j hj
  · intro j hj
    rw [o (by omega) (by omega) (by omega) (by omega) (by omega) (by omega), o (by omega) (by omega) (by omega) (by omega) (by omega) (by omega), o (by omega) (by omega) (by omega) (by omega) (by omega) (by omega), o (by omega) (by omega) (by omega) (by omega) (by omega) (by omega), o (by omega) (by omega) (by omega) (by omega) (by omega) (by omega)]
    exact b.nd j hj
  · intro f hf
    rw [a1]
    by_cases z : f = e
    · subst z
      rw [x0, if_pos rfl, if_pos ⟨e64, i10⟩]
    · rw [if_neg z, o (by omega) (by omega) (by omega) (by omega) (by omega) (by omega)]
      exact b.th f hf
  · intro f hf q
    rw [a1, a2, a3, a4, a6, a7, a8]
    by_cases z : f = e
    · subst z
      rw [x1, x2, x3, x4, x5, x6, x7, x8, if_pos rfl, if_pos rfl, if_pos rfl, if_pos rfl, if_pos rfl, if_pos rfl, if_pos rfl, cvn f hf (fun w => ae w.symm), cve, b.tk, if_neg i12]
      exact ⟨rfl, Or.inr ⟨rfl, rfl⟩, rfl, rfl, rfl, rfl, rfl, rfl⟩
    · rw [a1, if_neg z] at q
      have en := b.en f hf q
      rw [if_neg z, if_neg z, if_neg z, if_neg z, if_neg z, if_neg z, if_neg z, o (j := 701 + 9 * f + 1) (by omega) (by omega) (by omega) (by omega) (by omega) (by omega), o (j := 701 + 9 * f + 2) (by omega) (by omega) (by omega) (by omega) (by omega) (by omega), o (j := 701 + 9 * f + 3) (by omega) (by omega) (by omega) (by omega) (by omega) (by omega), o (j := 701 + 9 * f + 5) (by omega) (by omega) (by omega) (by omega) (by omega) (by omega), o (j := 701 + 9 * f + 6) (by omega) (by omega) (by omega) (by omega) (by omega) (by omega), o (j := 701 + 9 * f + 8) (by omega) (by omega) (by omega) (by omega) (by omega) (by omega)]
      by_cases w : f = a
      · subst w
        rw [da7, da4, if_pos rfl, cva, en.2.2.2.1]
        exact ⟨en.1, en.2.1, en.2.2.1, rfl, en.2.2.2.2.1, en.2.2.2.2.2.1, rfl, en.2.2.2.2.2.2.2⟩
      · rw [if_neg w, cvn f hf w, o (j := 701 + 9 * f + 4) (by omega) (by omega) (by omega) (by omega) (by omega) (by omega), o (j := 701 + 9 * f + 7) (by omega) (by omega) (by omega) (by omega) (by omega) (by omega)]
        exact en

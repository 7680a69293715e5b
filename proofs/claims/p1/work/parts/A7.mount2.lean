/-! A volume mounted, on both sides: the act. -/
theorem w_mount_end {J : MJ} (h : RefL J) (I : MI) (D G : RowV) (c : Int32) (hw : I 188 21 = -1) {U : NodV} {n vol : Nat} (hN : NodI U n vol) (nd : ∀ k, k < n → D (401 + 5 * k + 0) = U 1 k ∧ D (401 + 5 * k + 2) = U 2 k) {v rn e a : Nat} (v3 : v < 3) (rn1 : rn < n) (rn2 : U 5 v = nI rn) (rn4 : U 2 rn = -1) (rn5 : U 1 rn = nI v) (lu : fst? (fun e => !thQ D e) 0 128 = some e) (e64 : e < 64) : Ev T_X10_mount 102 [some (mR (some 188)), some (mI (nI v)), some (mI (nI a)), some (mI 0), none] [] (rF I D G c, J) = some (some (mI (nI e)), (rF I (sD (sD (cmD (mkD D e (-1) 0 (nI rn)) e) (5 + v) (nI e)) (8 + v) (nI a)) G c, J)) := by
  have n60 := hN.n60
  have go : ∀ j, j ≤ rn → Ev T_X10_mount 102 [some (mR (some 188)), some (mI (nI v)), some (mI (nI a)), some (mI 0), none] [] (rF I D G c, J) = Ev T_X10_mount 102 [some (mR (some 188)), some (mI (nI v)), some (mI (nI a)), some (mI (nI j)), none] [] (rF I D G c, J) := by
    intro j
    induction j with
    | zero => intro _; rfl
    | succ j ih =>
      intro hj
      obtain ⟨q0, q2⟩ := nd j (by omega)
      rw [ih (by omega), E_X10_mount_102]
      simp only [h.kt, if_true, w_nodeHas h _ 2 (show (2 : Int32) = nI 2 from rfl) (show j < 60 by omega) (by decide), w_nodeHas h _ 0 (show (0 : Int32) = nI 0 from rfl) (show j < 60 by omega) (by decide), Option.bind_some, asI_I, rF_D, q0, q2, nI_1]
      by_cases z : U 2 j = -1
      · rw [if_pos z, if_neg]
        intro y
        obtain ⟨w, w1, w2, w3⟩ := hN.rt j (by omega) z
        have vol3 := hN.v3
        have : w = v := (nI_eq (by omega) (by omega)).mp (w2.symm.trans y)
        rw [this, rn2] at w3
        have : rn = j := (nI_eq (by omega) (by omega)).mp w3
        omega
      · rw [if_neg z]
  obtain ⟨q0, q2⟩ := nd rn rn1
  have wc := w_come h I (mkD D e (-1) 0 (nI rn)) G c (wk := none) (m := 0) hw (fun k z => by cases z) (e := e) (by omega)
  have mk := w_makes h (rF I D G c) (-1) 0 (nI rn) (e := e) (by rw [rF_D]; exact lu) (by rw [mk0_rF]; exact wc)
  have e5 : (5 : Int32) + nI v = nI (5 + v) := nI_add 5 v
  have e8 : (8 : Int32) + nI v = nI (8 + v) := nI_add 8 v
  rw [go rn (Nat.le_refl _), E_X10_mount_102]
  simp only [h.kt, if_true, w_nodeHas h _ 2 (show (2 : Int32) = nI 2 from rfl) (show rn < 60 by omega) (by decide), w_nodeHas h _ 0 (show (0 : Int32) = nI 0 from rfl) (show rn < 60 by omega) (by decide), Option.bind_some, asI_I, rF_D, q0, q2, rn4, rn5, mk, h.f18, h.stD _ _ e5 (show 5 + v < 1853 by omega), h.stD _ _ e8 (show 8 + v < 1853 by omega), rF_sD]
  rfl
theorem Rfs.mount (x : Int32) : ∀ (J : MJ) (X X1 : MI) (y : Int32), RefL J → M_X10_isPath [mR (some 188)] (X, J) = some (some (mI y), (X1, J)) → (y = 0 ∨ bz (X1 188 13) = 0) → M_X10_mount [mR (some 188), mI x] (X, J) = some (some (mI (-1)), (rfR X1 3, J)) := by
  intro J X X1 y h hp hc
  rw [E_X10_mount]
  by_cases z : y = 0
  · simp only [h.kt, if_true, hp, Option.bind_some, asI_I, if_pos z, w_refuses h _ (show (3 : Int32) = nI 3 from rfl) (by decide)]
  · have z2 : bz (X1 188 13) = 0 := hc.resolve_left z
    have iv : M_X10_isVolume [mR (some 188), mI x] (X1, J) = some (some (mI 0), (X1, J)) := by
      rw [E_X10_isVolume]
      simp only [h.fz, Option.bind_some, if_pos z2]
      simp
    simp only [h.kt, if_true, hp, Option.bind_some, asI_I, if_neg z, iv, w_refuses h _ (show (3 : Int32) = nI 3 from rfl) (by decide)]
theorem w_isVolume {J : MJ} (h : RefL J) (Y : MI) (t13 : ¬ bz (Y 188 13) = 0) {vol : Nat} (hv : Y 188 11 = nI vol) (v1 : 1 ≤ vol) (v3 : vol ≤ 3) {U : NodV} (hU : U 0 6 = nI vol) (x : Int32) : M_X10_isVolume [mR (some 188), mI x] (Y, J) = some (some (mI (q_X2_hasVolume U x)), (Y, J)) := by
  rw [E_X10_isVolume]
  simp only [h.fz, Option.bind_some, if_neg t13, h.fi, hv, w_isIn x 0 (nI vol - 1) _ (show (0 : Int64) = Int32.toInt64 0 from rfl) rfl, asI_I]
  unfold q_X2_hasVolume
  rw [hU]
  by_cases a : x < 0
  · rw [if_pos a, if_pos a]
    simp
  · have xn : x = nI (ix x) := nI_ix a
    have xl := ix_lt x
    rw [if_neg a, if_neg a, show nI vol - 1 = nI (vol - 1) from nI_sub (b := 1) v1]
    by_cases b : ix x < vol
    · have b1 : ¬ nI (vol - 1) < x := by rw [xn]; exact nI_nlt (by omega) (by omega)
      have b2 : ¬ (3 : Int32) ≤ x := by rw [xn]; exact nI_ge (b := 3) (by omega) (by decide)
      have b3 : ¬ nI vol ≤ x := by rw [xn]; exact nI_ge b (by omega)
      rw [if_neg b1, if_neg b2, if_neg b3]
      simp
    · have b1 : nI (vol - 1) < x := by rw [xn]; exact nI_lt (by omega) (by omega)
      have b3 : nI vol ≤ x := by
        rw [xn]
        exact Int32.not_lt.mp (nI_nlt (by omega) (by omega))
      rw [if_pos b1, if_pos b3, ite_self]
      simp

/-! A volume unmounted: the pair. -/
theorem kpR_rF (I1 : MI) (G : RowV) (p q : Nat) : kpR (rF I1 (I1 194) G (I1 188 22)) p q = rF (kpR I1 p q) (I1 194) G (I1 188 22) := by
  funext x
  by_cases x199 : x = 199
  · subst x199
    rw [rF_o _ _ _ _ (by decide) (by decide) (by decide)]
    unfold kpR
    rw [rw1_s, rw1_s, rF_D, rF_o _ _ _ _ (by decide) (by decide) (by decide)]
  · by_cases x188 : x = 188
    · subst x188
      funext j
      by_cases j28 : j = 28
      · subst j28
        rw [(kpR_29 _ _ _).2, rF_k _ _ _ _ (by decide), (kpR_29 _ _ _).2]
      · by_cases j29 : j = 29
        · subst j29
          rw [(kpR_29 _ _ _).1, rF_k _ _ _ _ (by decide), (kpR_29 _ _ _).1]
        · rw [kpR_k _ _ _ j28 j29]
          by_cases j22 : j = 22
          · subst j22
            rw [rF_c, rF_c]
          · rw [rF_k _ _ _ _ j22, rF_k _ _ _ _ j22, kpR_k _ _ _ j28 j29]
    · rw [kpR_o _ _ _ x188 x199]
      by_cases x194 : x = 194
      · subst x194
        rw [rF_D, rF_D]
      · by_cases x195 : x = 195
        · subst x195
          rw [rF_G, rF_G]
        · rw [rF_o _ _ _ _ x188 x194 x195, rF_o _ _ _ _ x188 x194 x195, kpR_o _ _ _ x188 x199]
/-- an act without a path, with rows besides -/
theorem fin0g {I I1 Z Z2 : MI} {J1 J2 : MJ} {T B0 vol nn t : Nat} {U : NodV} {V : MemV} {H : OneV} {W : WkV} {D' G' : RowV} {c' : Int32} (fin : ∀ I2 J2, (∀ x, x ≠ 188 → x ≠ 190 → x ≠ 192 → x ≠ 194 → x ≠ 195 → x ≠ 198 → x ≠ 201 → x ≠ 200 → I2 x = Z x) → (∀ k, k ≠ 15 → k ≠ 22 → k ≠ 32 → I2 188 k = Z 188 k) → S3 I2 → S5 I2 → Wd I2 1 17 29 31 (I2 194) vol (T + 10001) → S6 J2 → J2.2 = J1.2 → St I2 J2 (T + 10001) B0) (zf : ZF I I1 Z) (zk : ∀ k, k ≠ 28 → k ≠ 29 → Z 188 k = I 188 k) (z201 : Z 201 = I 201) (s3 : S3 I) (s5 : S5 I) (s6 : S6 J2) (j2 : J2.2 = J1.2) (i186 : I1 186 = I 186) (i0 : I1 0 14 = I 0 14) (i187 : I1 187 = I 187) (hz : ∀ x, x ≠ 188 → x ≠ 192 → x ≠ 198 → x ≠ 200 → Z2 x = Z x) (hk : ∀ k, k ≠ 15 → Z2 188 k = Z 188 k) (w : Win I1 U V H W) (i : Inv U V H W nn vol t (T + 10001) (fun _ => 0)) (c : CntI V) (r : Rel none U V H W D' nn) : St (rF Z2 D' G' c') J2 (T + 10001) B0 := by
  obtain ⟨zD, z20, z21, zl, z190, _⟩ := zf
  have w2 := w.z zl
  have e : ∀ x, x ≠ 188 → x ≠ 192 → x ≠ 194 → x ≠ 195 → x ≠ 198 → x ≠ 200 → rF Z2 D' G' c' x = Z x := fun x a b d f g p => by rw [rF_o _ _ _ _ a d f, hz x a b g p]
  refine fin _ J2 (fun x a _ b d f g _ p => e x a b d f g p) (fun k a b _ => by rw [rF_k _ _ _ _ b, hk k a]) (s3.fr ?_ ?_) (s5.fr ?_ ?_ ?_ ?_) (Wd.mk i c r ?_ ?_ ?_ (fun k hk => ?_) (rF_D _ _ _ _)) s6 j2
  · rw [e _ (by decide) (by decide) (by decide) (by decide) (by decide) (by decide), zl 186 (by decide)]; exact i186
  · rw [e _ (by decide) (by decide) (by decide) (by decide) (by decide) (by decide), z190]
  · rw [e _ (by decide) (by decide) (by decide) (by decide) (by decide) (by decide), zl 0 (by decide)]; exact i0
  · rw [e _ (by decide) (by decide) (by decide) (by decide) (by decide) (by decide), zl 187 (by decide)]; exact i187
  · rw [rF_k _ _ _ _ (by decide), hk 32 (by decide), zk 32 (by decide) (by decide)]
  · rw [e _ (by decide) (by decide) (by decide) (by decide) (by decide) (by decide)]; exact z201
  · rw [vw_fr (I := Z) (fun x _ _ => e x (by omega) (by omega) (by omega) (by omega) (by omega) (by omega))]; exact w2.1
  · rw [vw_fr (I := Z) (fun x _ _ => e x (by omega) (by omega) (by omega) (by omega) (by omega) (by omega))]; exact w2.2.1
  · rw [vw_fr (I := Z) (fun x _ _ => e x (by omega) (by omega) (by omega) (by omega) (by omega) (by omega))]; exact w2.2.2.1
  · rw [wks_fr (I := Z) (fun x _ _ => e x (by omega) (by omega) (by omega) (by omega) (by omega) (by omega)) hk]; exact w2.2.2.2 k hk
/-- the reference's loops -/
theorem w_unm57 {U : NodV} {V : MemV} {H : OneV} {W : WkV} {D : RowV} {n vol t T v o : Nat} (r : Rel none U V H W D n) (i : Inv U V H W n vol t T (fun _ => 0)) {J : MJ} (h : RefL J) (Z : MI) (G : RowV) (c : Int32) (v3 : v < 3) (o64 : o < 64) : ∃ A D', Ev T_X10_unmount 57 [some (mR (some 188)), some (mI (nI v)), some (mI (nI o)), some (mI 0), some (mI 0)] [] (rF Z D G c, J) = some (some (mI (nI (cnt (ofB U V (nI v)) 0 64))), (rF (rw1 Z 200 A) D' G c, J)) ∧ (∀ e, e < 128 → D' (701 + 9 * e + 0) = if e < 64 ∧ ofB U V (nI v) e = true then 0 else D (701 + 9 * e + 0)) ∧ D' (701 + 9 * o + 7) = -1 ∧ D' (701 + 9 * o + 4) = D (701 + 9 * o + 4) + 1 ∧ D' (5 + v) = -1 ∧ D' (8 + v) = -1 ∧ ∀ j, j ≠ 5 + v → j ≠ 8 + v → j ≠ 701 + 9 * o + 7 → j ≠ 701 + 9 * o + 4 → (∀ e, e < 128 → j ≠ 701 + 9 * e + 0) → D' j = D j := by
  have f30 : ∀ X : MI, fR (X, J) 10 188 30 = some (some 200) := fun X => by rw [fR_ok 30 h.k, h.r30]
  have st2 : ∀ (X : MI) (k : Nat) (y : Int32), k < 128 → st (X, J) 12 200 (nI k) y = some (up2 X 200 k y, J) := fun X k y hk => by
    rw [st_ok _ _ h.s30 (inb_nI hk (by decide)), show (nI k).toNatClampNeg = k from ix_nI (by omega)]
  have ld2 : ∀ (X : MI) (k : Nat), k < 128 → ld (X, J) 12 200 (nI k) = some (X 200 k) := fun X k hk => by
    rw [ld_ok _ h.s30 (inb_nI hk (by decide)), show (nI k).toNatClampNeg = k from ix_nI (by omega)]
  have u2 : ∀ (A D G : RowV) (c : Int32) (k : Nat) (y : Int32), up2 (rF (rw1 Z 200 A) D G c) 200 k y = rF (rw1 Z 200 (sD A k y)) D G c := fun A D G c k y => by
    rw [rF_so _ _ _ _ _ (by decide) (by decide) (by omega), rw1_st]
  have r2 : ∀ (A D G : RowV) (c : Int32), rF (rw1 Z 200 A) D G c 200 = A := fun A D G c => by rw [rF_o _ _ _ _ (by decide) (by decide) (by decide), rw1_s]
  have nb1 : vp_nar .boolean 1 = 1 := rfl
  have nb0 : vp_nar .boolean 0 = 0 := rfl
  have s57 := loop_all (fun k (a : RowV × Nat) => Ev T_X10_unmount 57 [some (mR (some 188)), some (mI (nI v)), some (mI (nI o)), some (mI (nI a.2)), some (mI (nI k))] [] (rF (rw1 Z 200 a.1) D G c, J)) (fun k (a : RowV × Nat) => (sD a.1 k (if (decide (k < 64) && ofB U V (nI v) k) = true then 1 else 0), a.2 + if (decide (k < 64) && ofB U V (nI v) k) = true then 1 else 0)) 128 (Z 200, 0) (fun k a hk => by
    obtain ⟨A, m⟩ := a
    try dsimp only
    rw [E_X10_unmount_57, if_neg (show ¬ (128 : Int32) ≤ nI k from nI_ge hk (by decide))]
    simp only [h.kt, if_true, w_its h _ 0 (show (0 : Int32) = nI 0 from rfl) hk (by decide), Option.bind_some, asI_I, rF_D, f30, st2 _ k _ hk, ld2 _ k hk, u2, r2, w_flag, nI_1, nb1, nb0, sD_s]
    by_cases l : k < 64 ∧ ¬ V 1 k = 0
    · obtain ⟨k64, v1⟩ := l
      rw [r.B.th1 k64 v1, if_pos rfl]
      simp only [w_volumeOf r i.N i.M h _ G c k64 v1, Option.bind_some, asI_I]
      by_cases ob : vl U V k = nI v
      · have bt : (decide (k < 64) && ofB U V (nI v) k) = true := by
          rw [ofB_t.mpr ⟨v1, ob⟩]
          simp [k64]
        rw [if_pos ob, if_pos bt, if_pos bt]
        simp only [Option.bind_some, st2 _ k _ hk, u2, f30, ld2 _ k hk, r2, sD_s, if_neg i10, nI_1]
      · have bt : ¬ (decide (k < 64) && ofB U V (nI v) k) = true := fun w => by
          simp only [Bool.and_eq_true] at w
          exact ob (ofB_t.mp w.2).2
        rw [if_neg ob, if_neg bt, if_neg bt]
        simp only [Option.bind_some, st2 _ k _ hk, u2, f30, ld2 _ k hk, r2, sD_s, if_true]
        rw [Nat.add_zero m, show nI m + 0 = nI m from Int32.add_zero _]
    · have bt : ¬ (decide (k < 64) && ofB U V (nI v) k) = true := fun w => by
        simp only [Bool.and_eq_true, decide_eq_true_eq] at w
        exact l ⟨w.1, (ofB_t.mp w.2).1⟩
      rw [r.B.th k hk, if_neg l, if_neg i01, if_neg bt, if_neg bt, Nat.add_zero m])
  try dsimp only at s57
  rw [rw1_id, show (nI 0) = 0 from rfl] at s57
  obtain ⟨p1, p2⟩ := itr_pr (b := fun k => decide (k < 64) && ofB U V (nI v) k) 128 0 (Z 200) 0
  generalize itr (fun k (a : RowV × Nat) => (sD a.1 k (if (decide (k < 64) && ofB U V (nI v) k) = true then (1 : Int32) else 0), a.2 + if (decide (k < 64) && ofB U V (nI v) k) = true then 1 else 0)) 0 128 (Z 200, 0) = AA at s57 p1 p2
  obtain ⟨A, N⟩ := AA
  have p1 : ∀ j, A j = if 0 ≤ j ∧ j < 0 + 128 then (if (decide (j < 64) && ofB U V (nI v) j) = true then 1 else 0) else Z 200 j := p1
  have p2 : N = 0 + cnt (fun k => decide (k < 64) && ofB U V (nI v) k) 0 128 := p2
  have s57 : Ev T_X10_unmount 57 [some (mR (some 188)), some (mI (nI v)), some (mI (nI o)), some (mI 0), some (mI 0)] [] (rF Z D G c, J) = Ev T_X10_unmount 57 [some (mR (some 188)), some (mI (nI v)), some (mI (nI o)), some (mI (nI N)), some (mI (nI 128))] [] (rF (rw1 Z 200 A) D G c, J) := s57
  have nN : N = cnt (ofB U V (nI v)) 0 64 := by
    rw [p2, Nat.zero_add, show (128 : Nat) = 64 + 64 from rfl, cnt_add, cnt_zero (k := 0 + 64) (fun k a b => by
      have : ¬ k < 64 := by omega
      simp [this]), Nat.add_zero]
    exact cnt_cong (fun k _ hk => by
      have : k < 64 := by omega
      simp [this])
  have s131 := loop_all (fun k D => Ev T_X10_unmount 131 [some (mR (some 188)), some (mI (nI v)), some (mI (nI o)), some (mI (nI N)), some (mI (nI k))] [] (rF (rw1 Z 200 A) D G c, J)) (gnD A) 128 D (fun k D hk => by
    try dsimp only
    rw [E_X10_unmount_131, if_neg (show ¬ (128 : Int32) ≤ nI k from nI_ge hk (by decide))]
    simp only [f30, Option.bind_some, ld2 _ k hk, r2, h.f18, w_entryAt _ k 0 (show (0 : Int32) = nI 0 from rfl), asI_I, h.stD _ _ rfl (show 701 + 9 * k + 0 < 1853 by omega), rF_sD, nI_1]
    unfold gnD
    by_cases z : A k = 0
    · rw [if_pos z, if_pos z]
    · rw [if_neg z, if_neg z])
  try dsimp only at s131
  rw [show (nI 0) = 0 from rfl] at s131
  have d1 := fun j hj => itr_gn A 128 0 D j hj
  have d2 := fun e (he : e < 128) => itr_gn_at A 128 0 D e (Nat.zero_le _) (by omega)
  generalize itr (gnD A) 0 128 D = D1 at s131 d1 d2
  have e5 : (5 : Int32) + nI v = nI (5 + v) := nI_add 5 v
  have e8 : (8 : Int32) + nI v = nI (8 + v) := nI_add 8 v
  refine ⟨A, sD (sD (sD (sD D1 (701 + 9 * o + 7) (-1)) (701 + 9 * o + 4) (D1 (701 + 9 * o + 4) + 1)) (5 + v) (-1)) (8 + v) (-1), ?_, fun e he => ?_, ?_, ?_, ?_, sD_s _ _ _, fun j h1 h2 h3 h4 h5 => ?_⟩
  · rw [s57, E_X10_unmount_57, if_pos (show (128 : Int32) ≤ nI 128 by decide), s131, E_X10_unmount_131, if_pos (show (128 : Int32) ≤ nI 128 by decide), ← nN]
    simp only [h.f18, Option.bind_some, w_entryAt _ o 7 (show (7 : Int32) = nI 7 from rfl), w_entryAt _ o 4 (show (4 : Int32) = nI 4 from rfl), asI_I, h.stD _ _ (show nI (701 + 9 * o + 7) = nI (701 + 9 * o + 7) from rfl) (show 701 + 9 * o + 7 < 1853 by omega), h.stD _ _ (show nI (701 + 9 * o + 4) = nI (701 + 9 * o + 4) from rfl) (show 701 + 9 * o + 4 < 1853 by omega), h.ldD _ (show nI (701 + 9 * o + 4) = nI (701 + 9 * o + 4) from rfl) (show 701 + 9 * o + 4 < 1853 by omega), rF_sD, rF_D, h.stD _ _ e5 (show 5 + v < 1853 by omega), h.stD _ _ e8 (show 8 + v < 1853 by omega), sD_n D1 (-1 : Int32) (show 701 + 9 * o + 4 ≠ 701 + 9 * o + 7 by omega)]
  · rw [sD_n _ _ (by omega), sD_n _ _ (by omega), sD_n _ _ (by omega), sD_n _ _ (by omega), d2 e he, p1, if_pos (show 0 ≤ e ∧ e < 0 + 128 by omega)]
    by_cases z : e < 64 ∧ ofB U V (nI v) e = true
    · have bt : (decide (e < 64) && ofB U V (nI v) e) = true := by
        rw [z.2]
        simp [z.1]
      rw [if_pos z, if_pos bt, if_neg i10]
    · have bt : ¬ (decide (e < 64) && ofB U V (nI v) e) = true := fun w => by
        simp only [Bool.and_eq_true, decide_eq_true_eq] at w
        exact z w
      rw [if_neg z, if_neg bt, if_pos rfl]
  · rw [sD_n _ _ (by omega), sD_n _ _ (by omega), sD_n _ _ (by omega), sD_s]
  · rw [sD_n _ _ (by omega), sD_n _ _ (by omega), sD_s, d1 _ (fun e _ _ => by omega)]
  · rw [sD_n _ _ (by omega), sD_s]
  · rw [sD_n _ _ h2, sD_n _ _ h1, sD_n _ _ h4, sD_n _ _ h3, d1 j (fun e _ he => h5 e (by omega))]

/-! How acts end, once for all; the room; handles. -/
def Win (I1 : MI) (U : NodV) (V : MemV) (H : OneV) (W : WkV) : Prop := vw 6 I1 1 = U ∧ vw 12 I1 17 = V ∧ vw 1 I1 29 = H ∧ ∀ k, k < 4 → WkEq (wks I1 31 k) (W k)
theorem Win.z {I1 Z : MI} {U : NodV} {V : MemV} {H : OneV} {W : WkV} (w : Win I1 U V H W) (zl : ∀ x, x < 188 → Z x = I1 x) : Win Z U V H W := by
  refine ⟨?_, ?_, ?_, fun k hk => ?_⟩
  · rw [vw_fr (I := I1) (fun x _ _ => zl x (by omega))]; exact w.1
  · rw [vw_fr (I := I1) (fun x _ _ => zl x (by omega))]; exact w.2.1
  · rw [vw_fr (I := I1) (fun x _ _ => zl x (by omega))]; exact w.2.2.1
  · rw [wks_fr (I := I1) (fun x _ _ => zl x (by omega)) hk]; exact w.2.2.2 k hk
/-- an act with a path -/
theorem fin1 {I I1 Z : MI} {J1 : MJ} {T B0 vol nn t : Nat} {U : NodV} {V : MemV} {H : OneV} {W : WkV} {D' G' : RowV} {c' : Int32} (fin : ∀ I2, (∀ x, x ≠ 188 → x ≠ 190 → x ≠ 194 → x ≠ 195 → I2 x = Z x) → (∀ k, k ≠ 22 → I2 188 k = Z 188 k) → S3 I2 → Wd I2 1 17 29 31 (I2 194) vol (T + 10001) → St I2 J1 (T + 10001) B0) (zf : ZF I I1 Z) (s3 : S3 I) (i186 : I1 186 = I 186) (w : Win I1 U V H W) (i : Inv U V H W nn vol t (T + 10001) (fun _ => 0)) (c : CntI V) (r : Rel none U V H W D' nn) : St (rF Z D' G' c') J1 (T + 10001) B0 := by
  obtain ⟨zD, z20, z21, zl, z190, _⟩ := zf
  have w2 := w.z zl
  refine fin _ (fun x a _ d e => rF_o _ _ _ _ a d e) (fun k a => rF_k _ _ _ _ a) (s3.fr ?_ ?_) (Wd.mk i c r ?_ ?_ ?_ (fun k hk => ?_) (rF_D _ _ _ _))
  · rw [rF_o _ _ _ _ (by decide) (by decide) (by decide), zl 186 (by decide)]; exact i186
  · rw [rF_o _ _ _ _ (by decide) (by decide) (by decide), z190]
  · rw [vw_r _ _ _ _ (by decide)]; exact w2.1
  · rw [vw_r _ _ _ _ (by decide)]; exact w2.2.1
  · rw [vw_r _ _ _ _ (by decide)]; exact w2.2.2.1
  · rw [wks_fr (I := Z) (fun x _ _ => rF_o _ _ _ _ (by omega) (by omega) (by omega)) hk]; exact w2.2.2.2 k hk
/-- an act with a path that is refused behind its walks -/
theorem fin1r {I I1 Z : MI} {J1 : MJ} {T B0 vol nn t k : Nat} {U : NodV} {V : MemV} {H : OneV} {W : WkV} {D' G' : RowV} {c' : Int32} (fin : ∀ I2, (∀ x, x ≠ 188 → x ≠ 190 → x ≠ 194 → x ≠ 195 → I2 x = Z x) → (∀ k, k ≠ 22 → I2 188 k = Z 188 k) → S3 I2 → Wd I2 1 17 29 31 (I2 194) vol (T + 10001) → St I2 J1 (T + 10001) B0) (zf : ZF I I1 Z) (s3 : S3 I) (hk : k < 6) (i186 : ∀ j, I1 186 j = if j = k then I 186 k + 1 else I 186 j) (w : Win I1 U V H W) (i : Inv U V H W nn vol t (T + 10001) (fun _ => 0)) (c : CntI V) (r : Rel none U V H W D' nn) : St (rfR (rF Z D' G' c') k) J1 (T + 10001) B0 := by
  obtain ⟨zD, z20, z21, zl, z190, _⟩ := zf
  have w2 := w.z zl
  have o : ∀ x, x ≠ 190 → rfR (rF Z D' G' c') k x = rF Z D' G' c' x := fun x a => rfR_o _ _ a
  refine fin _ (fun x a b d e => by rw [o x b, rF_o _ _ _ _ a d e]) (fun k a => by rw [o 188 (by decide), rF_k _ _ _ _ a]) (s3.ref (k := k) (fun j => ?_) (fun j => ?_) hk) (Wd.mk i c r ?_ ?_ ?_ (fun k hk => ?_) (by rw [o 194 (by decide), rF_D]))
  · rw [o 186 (by decide), rF_o _ _ _ _ (by decide) (by decide) (by decide), zl 186 (by decide)]; exact i186 j
  · unfold rfR
    rw [up2_r, rF_o _ _ _ _ (by decide) (by decide) (by decide), z190]
  · rw [vw_fr (I := rF Z D' G' c') (fun x _ _ => o x (by omega)), vw_r _ _ _ _ (by decide)]; exact w2.1
  · rw [vw_fr (I := rF Z D' G' c') (fun x _ _ => o x (by omega)), vw_r _ _ _ _ (by decide)]; exact w2.2.1
  · rw [vw_fr (I := rF Z D' G' c') (fun x _ _ => o x (by omega)), vw_r _ _ _ _ (by decide)]; exact w2.2.2.1
  · rw [wks_fr (I := rF Z D' G' c') (fun x _ _ => o x (by omega)) hk, wks_fr (I := Z) (fun x _ _ => rF_o _ _ _ _ (by omega) (by omega) (by omega)) hk]; exact w2.2.2.2 k hk
/-- an act without a path -/
theorem fin0 {I I1 Z : MI} {J1 : MJ} {T B0 vol nn t : Nat} {U : NodV} {V : MemV} {H : OneV} {W : WkV} {D' G' : RowV} {c' : Int32} (fin : ∀ I2 J2, (∀ x, x ≠ 188 → x ≠ 190 → x ≠ 192 → x ≠ 194 → x ≠ 195 → x ≠ 198 → x ≠ 201 → x ≠ 200 → I2 x = Z x) → (∀ k, k ≠ 15 → k ≠ 22 → k ≠ 32 → I2 188 k = Z 188 k) → S3 I2 → S5 I2 → Wd I2 1 17 29 31 (I2 194) vol (T + 10001) → S6 J2 → J2.2 = J1.2 → St I2 J2 (T + 10001) B0) (zf : ZF I I1 Z) (zk : ∀ k, k ≠ 28 → k ≠ 29 → Z 188 k = I 188 k) (z201 : Z 201 = I 201) (s3 : S3 I) (s5 : S5 I) (s6 : S6 J1) (i186 : I1 186 = I 186) (i0 : I1 0 14 = I 0 14) (i187 : I1 187 = I 187) (w : Win I1 U V H W) (i : Inv U V H W nn vol t (T + 10001) (fun _ => 0)) (c : CntI V) (r : Rel none U V H W D' nn) : St (rF Z D' G' c') J1 (T + 10001) B0 := by
  obtain ⟨zD, z20, z21, zl, z190, _⟩ := zf
  have w2 := w.z zl
  refine fin _ J1 (fun x a _ _ d e _ _ _ => rF_o _ _ _ _ a d e) (fun k _ a _ => rF_k _ _ _ _ a) (s3.fr ?_ ?_) (s5.fr ?_ ?_ ?_ ?_) (Wd.mk i c r ?_ ?_ ?_ (fun k hk => ?_) (rF_D _ _ _ _)) s6 rfl
  · rw [rF_o _ _ _ _ (by decide) (by decide) (by decide), zl 186 (by decide)]; exact i186
  · rw [rF_o _ _ _ _ (by decide) (by decide) (by decide), z190]
  · rw [rF_o _ _ _ _ (by decide) (by decide) (by decide), zl 0 (by decide)]; exact i0
  · rw [rF_o _ _ _ _ (by decide) (by decide) (by decide), zl 187 (by decide)]; exact i187
  · rw [rF_k _ _ _ _ (by decide), zk 32 (by decide) (by decide)]
  · rw [rF_o _ _ _ _ (by decide) (by decide) (by decide)]; exact z201
  · rw [vw_r _ _ _ _ (by decide)]; exact w2.1
  · rw [vw_r _ _ _ _ (by decide)]; exact w2.2.1
  · rw [vw_r _ _ _ _ (by decide)]; exact w2.2.2.1
  · rw [wks_fr (I := Z) (fun x _ _ => rF_o _ _ _ _ (by omega) (by omega) (by omega)) hk]; exact w2.2.2.2 k hk
theorem Rel.room {U : NodV} {V : MemV} {H : OneV} {W : WkV} {D : RowV} {n : Nat} (r : Rel none U V H W D n) (v : Int32) (n60 : n ≤ 60) : Rel none U (uv V 0 11 v) H W (sD D 3 v) n := by
  have o : ∀ j, j ≠ 3 → sD D 3 v j = D j := fun j q => sD_n _ _ q
  have k : ∀ q : Fin 12, q ≠ 0 → uv V 0 11 v q = V q := fun q h => uv_k _ _ _ _ _ h
  have k0 : ∀ j, j ≠ 11 → uv V 0 11 v 0 j = V 0 j := fun j h => uv_n _ _ _ _ _ _ (fun q => h q.2)
  have b := r.B
  refine r.fr ⟨?_, ?_, ?_, ?_, ?_, ?_, ?_, ?_, ?_, ?_, ?_⟩ (fun j h1 h2 => o j (by omega)) (fun k z => by cases z)
  · rw [o 0 (by omega), k0 12 (by decide)]; exact b.tk
  · rw [o 1 (by omega), k0 13 (by decide)]; exact b.lo
  · rw [o 2 (by omega), k0 14 (by decide)]; exact b.tr
  · rw [sD_s, uv_s]
  · rw [o 4 (by omega)]; exact b.ev
  · intro v hv
    rw [o _ (by omega), k 9 (by decide)]; exact b.rt v hv
  · intro v hv
    rw [o _ (by omega), k 10 (by decide)]; exact b.ov v hv
  · intro j hj
    rw [o _ (by omega)]; exact b.ha j hj
  · intro j hj
    rw [o _ (by omega), o _ (by omega), o _ (by omega), o _ (by omega), o _ (by omega)]
    exact b.nd j hj
  · intro f hf
    rw [o _ (by omega), k 1 (by decide)]
    exact b.th f hf
  · intro f hf q
    rw [k 1 (by decide)] at q
    rw [o _ (by omega), o _ (by omega), o _ (by omega), o _ (by omega), o _ (by omega), o _ (by omega), o _ (by omega), o _ (by omega), k 1 (by decide), k 2 (by decide), k 3 (by decide), k 4 (by decide), k 6 (by decide), k 7 (by decide), k 8 (by decide), cov_fr (k 10 (by decide))]
    exact b.en f hf q
theorem P_room {I : MI} {J : MJ} {T B0 : Nat} (h : St I J T B0) (h30 : T + 10001 ≤ 1000000000) (x : Int32) : Pair I J T B0 (M_X9_room [mR (some 0), mI x]) (M_X10_room [mR (some 188), mI x]) := by
  have refs : ∀ Y : MI, RefL J → (bz (Y 188 13) = 0 ∨ x < 4 ∨ 40 < x ∨ x = Y 194 3) → M_X10_room [mR (some 188), mI x] (Y, J) = some (some (mI 0), (rfR Y 2, J)) := fun Y rl hc => by
    rw [E_X10_room]
    simp only [rl.fz, Option.bind_some, rl.kt, if_true, w_isRefused rl Y (show (2 : Int32) = nI 2 from rfl) (by decide), asI_I, w_isIn x 4 40 _ (show (4 : Int64) = Int32.toInt64 4 from rfl) (show (40 : Int64) = Int32.toInt64 40 from rfl), rl.f18, rl.ldD _ (show (3 : Int32) = nI 3 from rfl) (show 3 < 1853 by decide)]
    by_cases z : bz (Y 188 13) = 0
    · simp [z]
    · rw [if_neg z]
      by_cases a : x < 4
      · simp [a]
      · by_cases b : 40 < x
        · simp [a, b]
        · have : Y 194 3 = x := (hc.elim (fun w => absurd w z) (fun w => w.elim (fun v => absurd v a) (fun v => v.elim (fun u => absurd u b) id))).symm
          simp [a, b, this]
  rcases h.2.2.2.2.2.2.2.2.2 with td | u
  · obtain ⟨vol, nn, t, X, J1, hv, i, c, r, k1, kl, rl, ⟨e1, e2, e3, e4, _⟩, xo, j6, _, rest⟩ := act_pre0 h h30 td
    have lim : I 17 11 = I 194 3 := r.B.rm.symm
    by_cases hc : x < 4 ∨ 40 < x ∨ x = I 17 11
    · refine Pair.no h h30 (k := 2) (by decide) (u_room_no h.1.1 I x (Or.inr hc)) (refs _ h.1.2 (Or.inr ?_))
      rw [rfz_o _ _ (by decide), ← lim]
      exact hc
    · have b1 : ¬ x < 4 := fun z => hc (Or.inl z)
      have b2 : ¬ 40 < x := fun z => hc (Or.inr (Or.inl z))
      have b3 : ¬ x = I 17 11 := fun z => hc (Or.inr (Or.inr z))
      have x0 : ¬ x < 0 := fun z => b1 (Int32.lt_trans z (by decide))
      have xn : x = nI (ix x) := nI_ix x0
      have lo : 4 ≤ ix x := by
        rcases Nat.lt_or_ge (ix x) 4 with z | z
        · exact absurd (by rw [xn]; exact nI_lt (b := 4) z (by decide)) b1
        · exact z
      have hi : ix x ≤ 40 := by
        rcases Nat.lt_or_ge 40 (ix x) with z | z
        · exact absurd (by rw [xn]; exact nI_lt (a := 40) z (ix_lt x)) b2
        · exact z
      have uE := u_room h.1.1 I x (Told.h6 i) b1 b2 b3 k1 kl
      have oX : ∀ y, y ≠ 17 → up2 X 17 11 x y = X y := fun y a => up2_o _ _ _ a
      obtain ⟨Z, z1, zf, zo, zk, fin⟩ := rest (up2 X 17 11 x) (fun y a _ _ => oX y (by omega)) (by rw [oX 0 (by decide), xo 0 (by decide) (by decide)])
      have i1 : ∀ y, 188 ≤ y → y < 208 → up2 X 17 11 x y = I y := fun y a b => by rw [oX y (by omega), xo y (by omega) (by omega)]
      have t13 : ¬ bz (I 188 13) = 0 := by rw [← zk 13 (by decide) (by decide)]; exact zf.2.2.2.2.2.2.2
      refine ⟨1, _, rF Z (sD (I 194) 3 x) (Z 195) (Z 188 22), J1, uE, ?_, ?_⟩
      · rw [E_X10_room]
        simp only [rl.fz, Option.bind_some, rl.kt, if_true, i1 188 (by decide) (by decide), if_neg t13, asI_I, w_isIn x 4 40 _ (show (4 : Int64) = Int32.toInt64 4 from rfl) (show (40 : Int64) = Int32.toInt64 40 from rfl), if_neg b1, if_neg b2, if_neg i10, rl.f18, rl.ldD _ (show (3 : Int32) = nI 3 from rfl) (show 3 < 1853 by decide), i1 194 (by decide) (by decide), z1, asV_n, rl.stD _ _ (show (3 : Int32) = nI 3 from rfl) (show 3 < 1853 by decide)]
        rw [if_neg (fun z => b3 (by rw [lim]; exact z.symm))]
        have e : up2 Z 194 3 x = rF Z (sD (I 194) 3 x) (Z 195) (Z 188 22) := by
          have := rF_sD Z (Z 194) (Z 195) (Z 188 22) 3 x
          rw [rF_id, zf.1] at this
          exact this
        rw [e]
        simp
      · have i2 : Inv (vw 6 I 1) (uv (vw 12 I 17) 0 11 x) (vw 1 I 29) (wks I 31) nn vol t (T + 10001) (fun _ => 0) := by
          have kk : ∀ q : Fin 12, q ≠ 0 → uv (vw 12 I 17) 0 11 x q = vw 12 I 17 q := fun q h => uv_k _ _ _ _ _ h
          have it := i.T (show T ≤ T + 10001 by omega) h30
          obtain ⟨n1, n2, n3, n4, n5, n6⟩ := it
          refine ⟨n1, ?_, ⟨?_, n3.tT, n3.T30, ?_, ?_, ⟨ix x, ?_, lo, hi⟩, n3.tri.le (uv_n _ _ _ _ _ _ (by decide)) (fun k _ q => by rw [kk 1 (by decide)] at q; exact q) (Nat.le_refl _)⟩, ?_, ?_, ?_⟩
          · unfold MemI at n2 ⊢
            rw [kk 1 (by decide), kk 2 (by decide), kk 3 (by decide), kk 4 (by decide), kk 9 (by decide), kk 10 (by decide)]
            exact n2
          · rw [uv_n _ _ _ _ _ _ (by decide)]; exact n3.tk
          · rw [kk 1 (by decide), kk 8 (by decide)]; exact n3.bi
          · rw [kk 1 (by decide), kk 6 (by decide)]; exact n3.co
          · rw [uv_s]; exact xn
          · intro e he
            rw [kk 1 (by decide), kk 5 (by decide), hc_fr (kk 1 (by decide)) (kk 2 (by decide)) (kk 10 (by decide))]
            exact n4 e he
          · unfold HanI at n5 ⊢
            rw [kk 1 (by decide), kk 4 (by decide)]
            exact n5
          · intro k hk q
            obtain ⟨m, d, l, rr, hr, hw⟩ := n6 k hk q
            exact ⟨m, d, l, rr, hr, hw.fr (kk 1 (by decide)) (kk 4 (by decide)) (kk 6 (by decide)) (kk 8 (by decide)) (Nat.le_refl _) (Nat.le_refl _)⟩
        refine fin0 fin zf zk (by rw [zo 201 (by decide) (by decide), i1 201 (by decide) (by decide)]) h.2.2.2.1 h.2.2.2.2.2.1 j6 (by rw [oX 186 (by decide), xo 186 (by decide) (by decide)]) (by rw [oX 0 (by decide), xo 0 (by decide) (by decide)]) (by rw [oX 187 (by decide), xo 187 (by decide) (by decide)]) ⟨?_, ?_, ?_, fun k hk => ?_⟩ i2 (c.fr (uv_k _ _ _ _ _ (by decide)) (uv_k _ _ _ _ _ (by decide))) (r.room x i.N.n60)
        · rw [← e1]; exact vw_fr (fun y _ _ => oX y (by omega))
        · have := vw_up (N := 12) X 17 0 11 x
          rw [e2] at this
          exact this
        · rw [← e3]; exact vw_fr (fun y _ _ => oX y (by omega))
        · rw [wks_fr (I := I) (fun y a b => by rw [oX y (by omega), e4 y a (by omega)]) hk]; exact WkEq.refl _
  · exact Pair.no h h30 (k := 2) (by decide) (u_room_no h.1.1 I x (Or.inl (by rw [u.2.2.1.2.1]; exact Int32.le_refl _))) (refs _ h.1.2 (Or.inl (by rw [rfz_o _ _ (by decide)]; exact u.2.1)))

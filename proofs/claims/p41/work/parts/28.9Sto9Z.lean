section
/-! How acts end, once for all; the room; handles. -/
def Win (I1 : MI) (U : NodV) (V : MemV) (H : OneV) (W : WkV) : Prop := vw 6 I1 1 = U ∧ vw 12 I1 17 = V ∧ vw 1 I1 29 = H ∧ ∀ k, k < 4 → WkEq (wks I1 31 k) (W k)
theorem Win.z {I1 Z : MI} {U : NodV} {V : MemV} {H : OneV} {W : WkV} (w : Win I1 U V H W) (zl : ∀ x, x < 188 → Z x = I1 x) : Win Z U V H W := by
  refine ⟨?_, ?_, ?_, fun k hk => ?_⟩
  · rw [vw_fr (I := I1) (fun x _ _ => zl x (by omega))]; exact w.1
  · rw [vw_fr (I := I1) (fun x _ _ => zl x (by omega))]; exact w.2.1
  · rw [vw_fr (I := I1) (fun x _ _ => zl x (by omega))]; exact w.2.2.1
  · rw [wks_fr (I := I1) (fun x _ _ => zl x (by omega)) hk]; exact w.2.2.2 k hk
/-- an act with a path -/
theorem fin1 {I I1 Z : MI} {J1 : MJ} {T B0 vol nn t : Nat} {U : NodV} {V : MemV} {H : OneV} {W : WkV} {D' G' : RowV} {c' : Int32} (fin : ∀ I2, (∀ x, x ≠ 188 → x ≠ 190 → x ≠ 194 → x ≠ 195 → I2 x = Z x) → (∀ k, k ≠ 22 → I2 188 k = Z 188 k) → S3 I2 → Wd I2 1 17 29 31 (I2 194) vol (T + 10001) → St I2 J1 (T + 10001) B0) (zf : ZF I I1 Z) (s3 : S3 I) (i186 : I1 186 = I 186) (w : Win I1 U V H W) (i : Inv U V H W nn vol t (T + 10001) (fun _ => 0)) (c : CntI V) (r : Rel none U V H W D' nn) : St (rF Z D' G' c') J1 (T + 10001) B0 := by
  obtain ⟨zD, z20, z21, zl, z190, _⟩ := zf
  have w2 := w.z zl
  refine fin _ (fun x a _ d e => rF_o _ _ _ _ a d e) (fun k a => rF_k _ _ _ _ a) (s3.fr ?_ ?_) (Wd.mk i c r ?_ ?_ ?_ (fun k hk => ?_) (rF_D _ _ _ _))
  · rw [rF_o _ _ _ _ (by decide) (by decide) (by decide), zl 186 (by decide)]; exact i186
  · rw [rF_o _ _ _ _ (by decide) (by decide) (by decide), z190]
  · rw [vw_r _ _ _ _ (by decide)]; exact w2.1
  · rw [vw_r _ _ _ _ (by decide)]; exact w2.2.1
  · rw [vw_r _ _ _ _ (by decide)]; exact w2.2.2.1
  · rw [wks_fr (I := Z) (fun x _ _ => rF_o _ _ _ _ (by omega) (by omega) (by omega)) hk]; exact w2.2.2.2 k hk
/-- an act with a path that is refused behind its walks -/
theorem fin1r {I I1 Z : MI} {J1 : MJ} {T B0 vol nn t k : Nat} {U : NodV} {V : MemV} {H : OneV} {W : WkV} {D' G' : RowV} {c' : Int32} (fin : ∀ I2, (∀ x, x ≠ 188 → x ≠ 190 → x ≠ 194 → x ≠ 195 → I2 x = Z x) → (∀ k, k ≠ 22 → I2 188 k = Z 188 k) → S3 I2 → Wd I2 1 17 29 31 (I2 194) vol (T + 10001) → St I2 J1 (T + 10001) B0) (zf : ZF I I1 Z) (s3 : S3 I) (hk : k < 6) (i186 : ∀ j, I1 186 j = if j = k then I 186 k + 1 else I 186 j) (w : Win I1 U V H W) (i : Inv U V H W nn vol t (T + 10001) (fun _ => 0)) (c : CntI V) (r : Rel none U V H W D' nn) : St (rfR (rF Z D' G' c') k) J1 (T + 10001) B0 := by
  obtain ⟨zD, z20, z21, zl, z190, _⟩ := zf
  have w2 := w.z zl
  have o : ∀ x, x ≠ 190 → rfR (rF Z D' G' c') k x = rF Z D' G' c' x := fun x a => rfR_o _ _ a
  refine fin _ (fun x a b d e => by rw [o x b, rF_o _ _ _ _ a d e]) (fun k a => by rw [o 188 (by decide), rF_k _ _ _ _ a]) (s3.ref (k := k) (fun j => ?_) (fun j => ?_) hk) (Wd.mk i c r ?_ ?_ ?_ (fun k hk => ?_) (by rw [o 194 (by decide), rF_D]))
  · rw [o 186 (by decide), rF_o _ _ _ _ (by decide) (by decide) (by decide), zl 186 (by decide)]; exact i186 j
  · unfold rfR
    rw [up2_r, rF_o _ _ _ _ (by decide) (by decide) (by decide), z190]
  · rw [vw_fr (I := rF Z D' G' c') (fun x _ _ => o x (by omega)), vw_r _ _ _ _ (by decide)]; exact w2.1
  · rw [vw_fr (I := rF Z D' G' c') (fun x _ _ => o x (by omega)), vw_r _ _ _ _ (by decide)]; exact w2.2.1
  · rw [vw_fr (I := rF Z D' G' c') (fun x _ _ => o x (by omega)), vw_r _ _ _ _ (by decide)]; exact w2.2.2.1
  · rw [wks_fr (I := rF Z D' G' c') (fun x _ _ => o x (by omega)) hk, wks_fr (I := Z) (fun x _ _ => rF_o _ _ _ _ (by omega) (by omega) (by omega)) hk]; exact w2.2.2.2 k hk
/-- an act without a path -/
theorem fin0 {I I1 Z : MI} {J1 : MJ} {T B0 vol nn t : Nat} {U : NodV} {V : MemV} {H : OneV} {W : WkV} {D' G' : RowV} {c' : Int32} (fin : ∀ I2 J2, (∀ x, x ≠ 188 → x ≠ 190 → x ≠ 192 → x ≠ 194 → x ≠ 195 → x ≠ 198 → x ≠ 201 → x ≠ 200 → I2 x = Z x) → (∀ k, k ≠ 15 → k ≠ 22 → k ≠ 32 → I2 188 k = Z 188 k) → S3 I2 → S5 I2 → Wd I2 1 17 29 31 (I2 194) vol (T + 10001) → S6 J2 → J2.2 = J1.2 → St I2 J2 (T + 10001) B0) (zf : ZF I I1 Z) (zk : ∀ k, k ≠ 28 → k ≠ 29 → Z 188 k = I 188 k) (z201 : Z 201 = I 201) (s3 : S3 I) (s5 : S5 I) (s6 : S6 J1) (i186 : I1 186 = I 186) (i0 : I1 0 14 = I 0 14) (i187 : I1 187 = I 187) (w : Win I1 U V H W) (i : Inv U V H W nn vol t (T + 10001) (fun _ => 0)) (c : CntI V) (r : Rel none U V H W D' nn) : St (rF Z D' G' c') J1 (T + 10001) B0 := by
  obtain ⟨zD, z20, z21, zl, z190, _⟩ := zf
  have w2 := w.z zl
  refine fin _ J1 (fun x a _ _ d e _ _ _ => rF_o _ _ _ _ a d e) (fun k _ a _ => rF_k _ _ _ _ a) (s3.fr ?_ ?_) (s5.fr ?_ ?_ ?_ ?_) (Wd.mk i c r ?_ ?_ ?_ (fun k hk => ?_) (rF_D _ _ _ _)) s6 rfl
  · rw [rF_o _ _ _ _ (by decide) (by decide) (by decide), zl 186 (by decide)]; exact i186
  · rw [rF_o _ _ _ _ (by decide) (by decide) (by decide), z190]
  · rw [rF_o _ _ _ _ (by decide) (by decide) (by decide), zl 0 (by decide)]; exact i0
  · rw [rF_o _ _ _ _ (by decide) (by decide) (by decide), zl 187 (by decide)]; exact i187
  · rw [rF_k _ _ _ _ (by decide), zk 32 (by decide) (by decide)]
  · rw [rF_o _ _ _ _ (by decide) (by decide) (by decide)]; exact z201
  · rw [vw_r _ _ _ _ (by decide)]; exact w2.1
  · rw [vw_r _ _ _ _ (by decide)]; exact w2.2.1
  · rw [vw_r _ _ _ _ (by decide)]; exact w2.2.2.1
  · rw [wks_fr (I := Z) (fun x _ _ => rF_o _ _ _ _ (by omega) (by omega) (by omega)) hk]; exact w2.2.2.2 k hk
theorem Rel.room {U : NodV} {V : MemV} {H : OneV} {W : WkV} {D : RowV} {n : Nat} (r : Rel none U V H W D n) (v : Int32) (n60 : n ≤ 60) : Rel none U (uv V 0 11 v) H W (sD D 3 v) n := by
  have o : ∀ j, j ≠ 3 → sD D 3 v j = D j := fun j q => sD_n _ _ q
  have k : ∀ q : Fin 12, q ≠ 0 → uv V 0 11 v q = V q := fun q h => uv_k _ _ _ _ _ h
  have k0 : ∀ j, j ≠ 11 → uv V 0 11 v 0 j = V 0 j := fun j h => uv_n _ _ _ _ _ _ (fun q => h q.2)
  have b := r.B
  refine r.fr ⟨?_, ?_, ?_, ?_, ?_, ?_, ?_, ?_, ?_, ?_, ?_⟩ (fun j h1 h2 => o j (by omega)) (fun k z => by cases z)
  · rw [o 0 (by omega), k0 12 (by decide)]; exact b.tk
  · rw [o 1 (by omega), k0 13 (by decide)]; exact b.lo
  · rw [o 2 (by omega), k0 14 (by decide)]; exact b.tr
  · rw [sD_s, uv_s]
  · rw [o 4 (by omega)]; exact b.ev
  · intro v hv
    rw [o _ (by omega), k 9 (by decide)]; exact b.rt v hv
  · intro v hv
    rw [o _ (by omega), k 10 (by decide)]; exact b.ov v hv
  · intro j hj
    rw [o _ (by omega)]; exact b.ha j hj
  · intro j hj
    rw [o _ (by omega), o _ (by omega), o _ (by omega), o _ (by omega), o _ (by omega)]
    exact b.nd j hj
  · intro f hf
    rw [o _ (by omega), k 1 (by decide)]
    exact b.th f hf
  · intro f hf q
    rw [k 1 (by decide)] at q
    rw [o _ (by omega), o _ (by omega), o _ (by omega), o _ (by omega), o _ (by omega), o _ (by omega), o _ (by omega), o _ (by omega), k 1 (by decide), k 2 (by decide), k 3 (by decide), k 4 (by decide), k 6 (by decide), k 7 (by decide), k 8 (by decide), cov_fr (k 10 (by decide))]
    exact b.en f hf q
theorem P_room {I : MI} {J : MJ} {T B0 : Nat} (h : St I J T B0) (h30 : T + 10001 ≤ 1000000000) (x : Int32) : Pair I J T B0 (M_X9_room [mR (some 0), mI x]) (M_X10_room [mR (some 188), mI x]) := by
  have refs : ∀ Y : MI, RefL J → (bz (Y 188 13) = 0 ∨ x < 4 ∨ 40 < x ∨ x = Y 194 3) → M_X10_room [mR (some 188), mI x] (Y, J) = some (some (mI 0), (rfR Y 2, J)) := fun Y rl hc => by
    rw [E_X10_room]
    simp only [rl.fz, Option.bind_some, rl.kt, if_true, w_isRefused rl Y (show (2 : Int32) = nI 2 from rfl) (by decide), asI_I, w_isIn x 4 40 _ (show (4 : Int64) = Int32.toInt64 4 from rfl) (show (40 : Int64) = Int32.toInt64 40 from rfl), rl.f18, rl.ldD _ (show (3 : Int32) = nI 3 from rfl) (show 3 < 1853 by decide)]
    by_cases z : bz (Y 188 13) = 0
    · simp [z]
    · rw [if_neg z]
      by_cases a : x < 4
      · simp [a]
      · by_cases b : 40 < x
        · simp [a, b]
        · have : Y 194 3 = x := (hc.elim (fun w => absurd w z) (fun w => w.elim (fun v => absurd v a) (fun v => v.elim (fun u => absurd u b) id))).symm
          simp [a, b, this]
  rcases h.2.2.2.2.2.2.2.2.2 with td | u
  · obtain ⟨vol, nn, t, X, J1, hv, i, c, r, k1, kl, rl, ⟨e1, e2, e3, e4, _⟩, xo, j6, _, rest⟩ := act_pre0 h h30 td
    have lim : I 17 11 = I 194 3 := r.B.rm.symm
    by_cases hc : x < 4 ∨ 40 < x ∨ x = I 17 11
    · refine Pair.no h h30 (k := 2) (by decide) (u_room_no h.1.1 I x (Or.inr hc)) (refs _ h.1.2 (Or.inr ?_))
      rw [rfz_o _ _ (by decide), ← lim]
      exact hc
    · have b1 : ¬ x < 4 := fun z => hc (Or.inl z)
      have b2 : ¬ 40 < x := fun z => hc (Or.inr (Or.inl z))
      have b3 : ¬ x = I 17 11 := fun z => hc (Or.inr (Or.inr z))
      have x0 : ¬ x < 0 := fun z => b1 (Int32.lt_trans z (by decide))
      have xn : x = nI (ix x) := nI_ix x0
      have lo : 4 ≤ ix x := by
        rcases Nat.lt_or_ge (ix x) 4 with z | z
        · exact absurd (by rw [xn]; exact nI_lt (b := 4) z (by decide)) b1
        · exact z
      have hi : ix x ≤ 40 := by
        rcases Nat.lt_or_ge 40 (ix x) with z | z
        · exact absurd (by rw [xn]; exact nI_lt (a := 40) z (ix_lt x)) b2
        · exact z
      have uE := u_room h.1.1 I x (Told.h6 i) b1 b2 b3 k1 kl
      have oX : ∀ y, y ≠ 17 → up2 X 17 11 x y = X y := fun y a => up2_o _ _ _ a
      obtain ⟨Z, z1, zf, zo, zk, fin⟩ := rest (up2 X 17 11 x) (fun y a _ _ => oX y (by omega)) (by rw [oX 0 (by decide), xo 0 (by decide) (by decide)])
      have i1 : ∀ y, 188 ≤ y → y < 208 → up2 X 17 11 x y = I y := fun y a b => by rw [oX y (by omega), xo y (by omega) (by omega)]
      have t13 : ¬ bz (I 188 13) = 0 := by rw [← zk 13 (by decide) (by decide)]; exact zf.2.2.2.2.2.2.2
      refine ⟨1, _, rF Z (sD (I 194) 3 x) (Z 195) (Z 188 22), J1, uE, ?_, ?_⟩
      · rw [E_X10_room]
        simp only [rl.fz, Option.bind_some, rl.kt, if_true, i1 188 (by decide) (by decide), if_neg t13, asI_I, w_isIn x 4 40 _ (show (4 : Int64) = Int32.toInt64 4 from rfl) (show (40 : Int64) = Int32.toInt64 40 from rfl), if_neg b1, if_neg b2, if_neg i10, rl.f18, rl.ldD _ (show (3 : Int32) = nI 3 from rfl) (show 3 < 1853 by decide), i1 194 (by decide) (by decide), z1, asV_n, rl.stD _ _ (show (3 : Int32) = nI 3 from rfl) (show 3 < 1853 by decide)]
        rw [if_neg (fun z => b3 (by rw [lim]; exact z.symm))]
        have e : up2 Z 194 3 x = rF Z (sD (I 194) 3 x) (Z 195) (Z 188 22) := by
          have := rF_sD Z (Z 194) (Z 195) (Z 188 22) 3 x
          rw [rF_id, zf.1] at this
          exact this
        rw [e]
        simp
      · have i2 : Inv (vw 6 I 1) (uv (vw 12 I 17) 0 11 x) (vw 1 I 29) (wks I 31) nn vol t (T + 10001) (fun _ => 0) := by
          have kk : ∀ q : Fin 12, q ≠ 0 → uv (vw 12 I 17) 0 11 x q = vw 12 I 17 q := fun q h => uv_k _ _ _ _ _ h
          have it := i.T (show T ≤ T + 10001 by omega) h30
          obtain ⟨n1, n2, n3, n4, n5, n6⟩ := it
          refine ⟨n1, ?_, ⟨?_, n3.tT, n3.T30, ?_, ?_, ⟨ix x, ?_, lo, hi⟩, n3.tri.le (uv_n _ _ _ _ _ _ (by decide)) (fun k _ q => by rw [kk 1 (by decide)] at q; exact q) (Nat.le_refl _)⟩, ?_, ?_, ?_⟩
          · unfold MemI at n2 ⊢
            rw [kk 1 (by decide), kk 2 (by decide), kk 3 (by decide), kk 4 (by decide), kk 9 (by decide), kk 10 (by decide)]
            exact n2
          · rw [uv_n _ _ _ _ _ _ (by decide)]; exact n3.tk
          · rw [kk 1 (by decide), kk 8 (by decide)]; exact n3.bi
          · rw [kk 1 (by decide), kk 6 (by decide)]; exact n3.co
          · rw [uv_s]; exact xn
          · intro e he
            rw [kk 1 (by decide), kk 5 (by decide), hc_fr (kk 1 (by decide)) (kk 2 (by decide)) (kk 10 (by decide))]
            exact n4 e he
          · unfold HanI at n5 ⊢
            rw [kk 1 (by decide), kk 4 (by decide)]
            exact n5
          · intro k hk q
            obtain ⟨m, d, l, rr, hr, hw⟩ := n6 k hk q
            exact ⟨m, d, l, rr, hr, hw.fr (kk 1 (by decide)) (kk 4 (by decide)) (kk 6 (by decide)) (kk 8 (by decide)) (Nat.le_refl _) (Nat.le_refl _)⟩
        refine fin0 fin zf zk (by rw [zo 201 (by decide) (by decide), i1 201 (by decide) (by decide)]) h.2.2.2.1 h.2.2.2.2.2.1 j6 (by rw [oX 186 (by decide), xo 186 (by decide) (by decide)]) (by rw [oX 0 (by decide), xo 0 (by decide) (by decide)]) (by rw [oX 187 (by decide), xo 187 (by decide) (by decide)]) ⟨?_, ?_, ?_, fun k hk => ?_⟩ i2 (c.fr (uv_k _ _ _ _ _ (by decide)) (uv_k _ _ _ _ _ (by decide))) (r.room x i.N.n60)
        · rw [← e1]; exact vw_fr (fun y _ _ => oX y (by omega))
        · have := vw_up (N := 12) X 17 0 11 x
          rw [e2] at this
          exact this
        · rw [← e3]; exact vw_fr (fun y _ _ => oX y (by omega))
        · rw [wks_fr (I := I) (fun y a b => by rw [oX y (by omega), e4 y a (by omega)]) hk]; exact WkEq.refl _
  · exact Pair.no h h30 (k := 2) (by decide) (u_room_no h.1.1 I x (Or.inl (by rw [u.2.2.1.2.1]; exact Int32.le_refl _))) (refs _ h.1.2 (Or.inl (by rw [rfz_o _ _ (by decide)]; exact u.2.1)))
end
section
/-! Handles closed and opened, on both sides. -/
theorem Inv.release0 {U : NodV} {V : MemV} {H : OneV} {W : WkV} {n vol t T : Nat} {e : Nat} (i : Inv U V H W n vol t T (dlx (fun _ => 0) e)) (he : e < 64) (h1 : ¬ V 1 e = 0) : Inv U (gV_X1_release V (nI e)) H W n vol t T (fun _ => 0) ∧ ∀ f, gV_X1_release V (nI e) 1 f = if f = e ∧ V 1 e = 2 ∧ hc V H W e = 0 then 0 else V 1 f := by
  obtain ⟨a, b⟩ := i.release he h1
  refine ⟨a, fun f => ?_⟩
  rw [b f]
  generalize hc V H W e = z
  by_cases y : f = e ∧ V 1 e = 2 ∧ z = 0
  · rw [if_pos y, if_pos ⟨y.1, y.2.1, y.2.2⟩]
  · rw [if_neg y, if_neg (fun w => y ⟨w.1, w.2.1, w.2.2⟩)]
theorem P_close {I : MI} {J : MJ} {T B0 : Nat} (h : St I J T B0) (h30 : T + 10001 ≤ 1000000000) (x : Int32) : Pair I J T B0 (M_X9_close [mR (some 0), mI x]) (M_X10_close [mR (some 188), mI x]) := by
  have refs : ∀ Y : MI, (if bz (Y 188 13) = 0 then -1 else if x < 0 then -1 else if 5 < x then -1 else Y 194 (11 + ix x)) = -1 → M_X10_close [mR (some 188), mI x] (Y, J) = some (some (mI 0), (rfR Y 4, J)) := fun Y hc => by
    rw [E_X10_close]
    simp only [h.1.2.kt, if_true, w_handle h.1.2, Option.bind_some, asI_I, hc, w_isRefused h.1.2 Y (show (4 : Int32) = nI 4 from rfl) (by decide)]
    simp
  by_cases hn : q_X8_handleAt (vw 1 I 16) (vw 1 I 29) x = -1
  · refine Pair.no h h30 (k := 4) (by decide) (u_close_no h.1.1 I x hn) (refs _ ?_)
    rw [rfz_o _ _ (by decide), rfz_o _ _ (by decide)]
    unfold q_X8_handleAt at hn
    by_cases z : bz (I 188 13) = 0
    · rw [if_pos z]
    · rw [if_neg z]
      by_cases a : x < 0
      · rw [if_pos a]
      · rw [if_neg a]
        by_cases b : (6 : Int32) ≤ x
        · rw [if_pos (five.mpr b)]
        · rw [if_neg (fun w => b (five.mp w))]
          rw [if_neg a, if_neg b] at hn
          rcases h.2.2.2.2.2.2.2.2.2 with ⟨vol, ad, p, q, _, _, ⟨nn, t, _, _, r⟩, _⟩ | u
          · rw [r.B.ha _ (lt6 a b)]; exact hn
          · exact absurd u.2.1 z
  · have hn' := hn
    unfold q_X8_handleAt at hn'
    have a : ¬ x < 0 := fun z => hn' (by rw [if_pos z])
    have b : ¬ (6 : Int32) ≤ x := fun z => hn' (by rw [if_neg a, if_pos z])
    rw [if_neg a, if_neg b] at hn'
    have k6 := lt6 a b
    have xn : x = nI (ix x) := nI_ix a
    rcases h.2.2.2.2.2.2.2.2.2 with td | u
    · obtain ⟨vol, nn, t, X, J1, hv, i, c, r, k1, kl, rl, ⟨e1, e2, e3, e4, _⟩, xo, j6, _, rest⟩ := act_pre0 h h30 td
      have uE := u_close h.1.1 I x hn k1 kl
      unfold gH_X8_closeHandle gV_X8_closeHandle at uE
      rw [if_neg a, if_neg b, if_neg a, if_neg b, e2, e3] at uE
      rcases i.H (ix x) k6 with z | ⟨e, e64, ee, ee1, ee4⟩
      · exact absurd z hn'
      · rw [ee] at uE
        generalize hk : ix x = k at uE k6 ee
        have i1 := (i.hsub e64 ee1 k6 ee (by decide)).T (show T ≤ T + 10001 by omega) h30
        obtain ⟨i2, v1⟩ := i1.release0 e64 ee1
        have r1 := r.hset k6 (-1) i.N.n60
        generalize hH' : uv (vw 1 I 29) 0 k (-1) = H' at uE i1 i2 v1 r1
        generalize hV' : gV_X1_release (vw 12 I 17) (nI e) = V' at uE i2 v1
        have oX : ∀ y, y < 17 ∨ 30 ≤ y → pt (pt X 29 H') 17 V' y = X y := fun y q => by rw [pt_out (by omega), pt_out (by omega)]
        obtain ⟨Z, z1, zf, zo, zk, fin⟩ := rest (pt (pt X 29 H') 17 V') (fun y q _ _ => oX y (by omega)) (by rw [oX 0 (by decide), xo 0 (by decide) (by decide)])
        have lo : ∀ y, 188 ≤ y → y < 208 → pt (pt X 29 H') 17 V' y = I y := fun y p q => by rw [oX y (by omega), xo y (by omega) (by omega)]
        have kV : ∀ q : Fin 12, q ≠ 1 → q ≠ 5 → V' q = vw 12 I 17 q := fun q p1 p5 => by rw [← hV']; exact re_k _ _ q p1 p5
        obtain ⟨D', G', s1, s2⟩ := r1.sweeps i1 rl Z zf.2.1 (Z 195) (Z 188 22) (V' := V') (fun q _ p1 p5 _ => kV q p1 p5) ⟨by rw [kV 0 (by decide) (by decide)], by rw [kV 0 (by decide) (by decide)], by rw [kV 0 (by decide) (by decide)], by rw [kV 0 (by decide) (by decide)]⟩ (fun f hf => by
          rw [v1 f]
          by_cases w : f = e
          · subst w
            by_cases y : vw 12 I 17 1 f = 2 ∧ hc (vw 12 I 17) H' (wks I 31) f = 0
            · rw [if_pos y, if_pos ⟨rfl, y.1, y.2⟩]
            · rw [if_neg y, if_neg (fun u => y ⟨u.2.1, u.2.2⟩)]
          · rw [if_neg (fun u => w u.1), if_neg]
            rintro ⟨y1, y2⟩
            have := ((i1.L f hf).2.2 (by rw [y1]; exact i20)).2 y1
            have dz : dlx (fun _ => 0) e f = 0 := by unfold dlx; rw [if_neg w]
            rw [dz, y2] at this
            omega)
        have t13 : ¬ bz (I 188 13) = 0 := by rw [← zk 13 (by decide) (by decide)]; exact zf.2.2.2.2.2.2.2
        have hdl : (if bz (I 188 13) = 0 then -1 else if x < 0 then -1 else if 5 < x then -1 else I 194 (11 + ix x)) = nI e := by
          rw [if_neg t13, if_neg a, if_neg (fun w => b (five.mp w)), hk, r.B.ha _ k6, ee]
        refine ⟨1, _, rF Z D' G' (Z 188 22), J1, uE, ?_, ?_⟩
        · rw [E_X10_close]
          have wh := w_handle rl (pt (pt X 29 H') 17 V') x
          rw [lo 188 (by decide) (by decide), lo 194 (by decide) (by decide), hdl] at wh
          have e11 : (11 : Int32) + x = nI (11 + k) := by
            rw [xn, hk]
            exact nI_add 11 k
          simp only [rl.kt, if_true, wh, Option.bind_some, asI_I, if_neg (nI_m1 (show e < 2 ^ 31 by omega)), z1, asV_n, rl.f18, rl.stD _ _ e11 (show 11 + k < 1853 by omega)]
          have eD : up2 Z 194 (11 + k) (-1) = rF Z (sD (I 194) (11 + k) (-1)) (Z 195) (Z 188 22) := by
            have := rF_sD Z (Z 194) (Z 195) (Z 188 22) (11 + k) (-1)
            rw [rF_id, zf.1] at this
            exact this
          rw [eD, s1]
          simp [asV]
        · refine fin0 fin zf zk (by rw [zo 201 (by decide) (by decide), lo 201 (by decide) (by decide)]) h.2.2.2.1 h.2.2.2.2.2.1 j6 (by rw [oX 186 (by decide), xo 186 (by decide) (by decide)]) (by rw [oX 0 (by decide), xo 0 (by decide) (by decide)]) (by rw [oX 187 (by decide), xo 187 (by decide) (by decide)]) ⟨?_, vw_pt _ _ _, ?_, fun j hj => ?_⟩ i2 (c.sub (fun f hf q => ?_) (kV 9 (by decide) (by decide))) s2
          · rw [← e1]; exact vw_fr (fun y _ _ => oX y (by omega))
          · rw [vw_out _ _ (by decide), vw_pt]
          · rw [wks_fr (I := I) (fun y p q => by rw [oX y (by omega), e4 y p (by omega)]) hj]; exact WkEq.refl _
          · rw [v1 f] at q
            by_cases w : f = e ∧ vw 12 I 17 1 e = 2 ∧ hc (vw 12 I 17) H' (wks I 31) e = 0
            · rw [if_pos w] at q; exact absurd rfl q
            · rw [if_neg w] at q; exact q
    · exact absurd (u.2.2.1.2.2.2.2.2.1 _ k6) hn'
/-- both refuse behind a path -/
theorem St.prf {I : MI} {J : MJ} {T B0 n k p' l' : Nat} {S' : RowV} (h : St I J T B0) (h30 : T + 10001 ≤ 1000000000) (hk : k < 6) : St (rfR (pF (bgP (rfz (tkn I n) k) n) (nI p') (nI l') S') k) J (T + 10001) B0 := by
  have o : ∀ x, x ≠ 7 → (x < 158 ∨ 183 ≤ x) → x ≠ 186 → rfz (tkn I n) k x = I x := fun x p q r => by rw [rfz_o _ _ r, tkn_o _ _ p q]
  have po : ∀ x, x ≠ 188 → x ≠ 192 → pF (bgP (rfz (tkn I n) k) n) (nI p') (nI l') S' x = rfz (tkn I n) k x := fun x p q => by rw [pF_o _ _ _ _ p q, bgP_o _ _ p]
  have pk : ∀ j, j ≠ 1 → j ≠ 2 → j ≠ 3 → j ≠ 15 → pF (bgP (rfz (tkn I n) k) n) (nI p') (nI l') S' 188 j = I 188 j := fun j a b c d => by rw [pF_k _ _ _ _ b d, bgP_k _ _ a b c, o 188 (by decide) (by decide) (by decide)]
  refine h.tk h30 (h.2.2.2.1.rf hk (po 186 (by decide) (by decide)) (by rw [po 190 (by decide) (by decide), o 190 (by decide) (by decide) (by decide)])) (fun x a1 a2 a3 a4 a5 a6 _ _ _ => ?_) (fun j b1 b2 b3 b4 _ _ => ?_) ?_ ?_
  · rw [rfR_o _ _ a5, po x a4 a6, o x a1 a2 a3]
  · rw [rfR_o _ _ (by decide)]
    exact pk j b1 b2 b3 b4
  · rw [rfR_o _ _ (by decide), po 7 (by decide) (by decide), rfz_o _ _ (by decide)]
    exact tkn_7 I n
  · rw [rfR_o _ _ (by decide), pF_k _ _ _ _ (by decide) (by decide)]
    exact (bgP_3 _ _).2.1
/-- refused behind a good path, by what there is -/
theorem Pair.path_full {I : MI} {J : MJ} {T B0 n : Nat} (h : St I J T B0) (h30 : T + 10001 ≤ 1000000000) (td : Told I J T B0) (t1 : Tap (vw 2 I 7) n) (t2 : I 188 1 = nI n) (t3 : ∀ k, k < n → I 189 k = I 8 k) (hy : (rowO I n).1 = 1) {k : Nat} (hk : k < 6) {f g : MH → Option MO} (hf : f (I, J) = some (some (mI (-1)), (rfz (tkn I n) k, J))) (hg : ∀ X X1, M_X10_isPath [mR (some 188)] (X, J) = some (some (mI 1), (X1, J)) → X1 194 = I 194 → (∀ k, k ≠ 1 → k ≠ 2 → k ≠ 3 → k ≠ 15 → X1 188 k = I 188 k) → g (X, J) = some (some (mI (-1)), (rfR X1 k, J))) : Pair I J T B0 f g := by
  have o : ∀ x, x ≠ 7 → (x < 158 ∨ 183 ≤ x) → x ≠ 186 → rfz (tkn I n) k x = I x := fun x p q r => by rw [rfz_o _ _ r, tkn_o _ _ p q]
  obtain ⟨y, p', l', S', g1, g2⟩ := path1 (Y := rfz (tkn I n) k) h.1.2 t1 (by rw [o 188 (by decide) (by decide) (by decide)]; exact t2) (fun j hj => by rw [o 189 (by decide) (by decide) (by decide)]; exact t3 j hj)
  obtain ⟨vol, ad, p, q, _, _, ⟨nn, t, i, _⟩, _⟩ := td
  rcases g2 (Told.h6 i) with ⟨_, z, _⟩ | ⟨z, _⟩
  · subst z
    refine ⟨-1, _, _, J, hf, hg _ _ g1 ?_ (fun j a b c d => ?_), h.prf h30 hk⟩
    · rw [pF_o _ _ _ _ (by decide) (by decide), bgP_o _ _ (by decide), o 194 (by decide) (by decide) (by decide)]
    · rw [pF_k _ _ _ _ b d, bgP_k _ _ a b c, o 188 (by decide) (by decide) (by decide)]
  · exact absurd hy z
theorem w_handleMany {J : MJ} (h : RefL J) (I : MI) : M_X10_handleMany [mR (some 188)] (I, J) = some (some (mI (nI (cnt (fun k => decide (¬ I 194 (11 + k) = -1)) 0 6))), (I, J)) := by
  rw [E_X10_handleMany]
  have step := loop_cnt (fun k c => Ev T_X10_handleMany 4 [some (mR (some 188)), some (mI (nI c)), some (mI (nI k))] [] (I, J)) (fun k => decide (¬ I 194 (11 + k) = -1)) 6 (fun k c hk => by
    try dsimp only
    have e11 : (11 : Int32) + nI k = nI (11 + k) := nI_add 11 k
    rw [E_X10_handleMany_4, if_neg (show ¬ (6 : Int32) ≤ nI k from nI_ge hk (by decide))]
    simp only [h.f18, Option.bind_some, h.ldD _ e11 (show 11 + k < 1853 by omega), w_flag, asI_I, nI_1]
    by_cases a : I 194 (11 + k) = -1
    · simp [a]
    · simp [a, nI_1]) 6 0 0 (by omega)
  try dsimp only at step
  rw [show (nI 0) = 0 from rfl] at step
  rw [step, E_X10_handleMany_4, if_pos (show (6 : Int32) ≤ nI 6 by decide), Nat.zero_add]
theorem Rfs.opn : Rfs (M_X10_open [mR (some 188)]) 4 := by
  intro J X X1 y h hp hc
  rw [E_X10_open]
  simp only [h.kt, if_true, hp, Option.bind_some, asI_I, h.fz, w_refuses h _ (show (4 : Int32) = nI 4 from rfl) (by decide)]
  rcases hc with z | ⟨z1, z2⟩
  · rw [if_pos z]
  · rw [if_neg z1, if_pos z2]
theorem cnt_all6 {P : Nat → Bool} : cnt P 0 6 = 6 ↔ ∀ k, k < 6 → P k = true := by
  constructor
  · intro q k hk
    cases z : P k with
    | true => rfl
    | false =>
      have one := cnt_one (P := P) (P' := fun i => if i = k then true else P i) (e := k) (n := 6) (k := 0) (Nat.zero_le _) (by omega) (fun i _ _ w => by rw [if_neg w])
      have := cnt_le (fun i => if i = k then true else P i) 6 0
      have e0 : (if P k = true then 1 else 0) = 0 := by rw [z]; rfl
      have e1 : (if (if k = k then true else P k) = true then 1 else 0) = 1 := by rw [if_pos rfl]; rfl
      rw [e0, e1] at one
      omega
  · intro q
    have : cnt P 0 6 = cnt (fun _ => true) 0 6 := cnt_cong (fun k _ hk => q k (by omega))
    rw [this]
    decide
theorem Rel.r5 {U : NodV} {V V' : MemV} {H : OneV} {W : WkV} {D : RowV} {n : Nat} (r : Rel none U V H W D n) (k : ∀ q : Fin 12, q ≠ 0 → q ≠ 5 → q ≠ 11 → V' q = V q) (k0 : V' 0 11 = V 0 11 ∧ V' 0 12 = V 0 12 ∧ V' 0 13 = V 0 13 ∧ V' 0 14 = V 0 14) : Rel none U V' H W D n :=
  r.fr (r.B.fr k k0) (fun _ _ _ => rfl) (fun _ z => by cases z)
theorem P_open {I : MI} {J : MJ} {T B0 : Nat} (h : St I J T B0) (h30 : T + 10001 ≤ 1000000000) : Pair I J T B0 (M_X9_open [mR (some 0)]) (M_X10_open [mR (some 188)]) := by
  obtain ⟨n, t1, t2, t3⟩ := h.2.1
  have T4 := t1.1
  have w29 : vw 1 (tkn I n) 29 = vw 1 I 29 := vw_fr (fun x _ _ => tkn_o I n (by omega) (by omega))
  by_cases hy : (rowO I n).1 = 1
  · rcases h.2.2.2.2.2.2.2.2.2 with td | u
    · obtain ⟨vol, nn, t, X, J1, hv, i, c, r, k1, kl, rl, ⟨e1, e2, e3, e4, e16⟩, x186, rest⟩ := act_pre (n := n) h h30 td t1 t2 t3 hy
      cases hf : f_X8_freeHandle (vw 1 I 16) (vw 1 I 29) with
      | none =>
        have full : q_X8_freeHandle (vw 1 (tkn I n) 16) (vw 1 (tkn I n) 29) = -1 := by
          show oI (f_X8_freeHandle (vw 1 (tkn I n) 16) (vw 1 (tkn I n) 29)) = -1
          rw [w29]
          show oI (f_X8_freeHandle (vw 1 I 16) (vw 1 I 29)) = -1
          rw [hf]
          rfl
        refine Pair.path_full h h30 td t1 t2 t3 hy (k := 4) (by decide) (u_open_full h.1.1 I T4 t1.2.1 hy full) (fun Y Y1 y1 y2 y3 => ?_)
        have all : cnt (fun k => decide (¬ Y1 194 (11 + k) = -1)) 0 6 = 6 := by
          rw [cnt_all6]
          intro k hk
          rw [y2, r.B.ha k hk]
          have := fst_none hf k (Nat.zero_le _) (by omega)
          simp only [decide_eq_true_eq]
          intro z
          rw [if_pos z] at this
          cases this
        have t13 : ¬ bz (Y1 188 13) = 0 := by
          rw [y3 13 (by decide) (by decide) (by decide) (by decide)]
          obtain ⟨_, _, _, _, _, z, _⟩ := td
          exact z
        rw [E_X10_open]
        simp only [h.1.2.kt, if_true, y1, Option.bind_some, asI_I, if_neg i10, h.1.2.fz, if_neg t13, w_handleMany h.1.2, all]
        rw [if_pos (show nI 6 = 6 from rfl), w_refuses h.1.2 _ (show (4 : Int32) = nI 4 from rfl) (by decide)]
        rfl
      | some k =>
        obtain ⟨_, k6, kq, kmin⟩ := fst_some hf
        have k6 : k < 6 := by omega
        have hk1 : vw 1 I 29 0 k = -1 := by
          by_cases z : vw 1 I 29 0 k = -1
          · exact z
          · rw [if_neg z] at kq; cases kq
        have fq : q_X8_freeHandle (vw 1 X 16) (vw 1 I 29) = nI k := by
          show oI (f_X8_freeHandle (vw 1 I 16) (vw 1 I 29)) = nI k
          rw [hf]
          rfl
        have nf : ¬ q_X8_freeHandle (vw 1 (tkn I n) 16) (vw 1 (tkn I n) 29) = -1 := by
          rw [w29]
          show ¬ oI (f_X8_freeHandle (vw 1 I 16) (vw 1 I 29)) = -1
          rw [hf]
          exact nI_m1 (by omega)
        have uE := u_open h.1.1 I T4 t1.2.1 hy nf k1 kl
        unfold q_X8_openAt gH_X8_openAt gV_X8_openAt at uE
        rw [e1, e2, e3, fq] at uE
        have ip := i.T (show T ≤ T + 10001 by omega) h30
        have tT := i.Z.tT
        -- the walk, on a heap that the class leaves
        have walk : ∀ (Z : MI) (l' : Nat), Pth (vw 2 X 158) (Z 192) l' → X 158 1 = nI l' → l' ≤ 12 → Z 188 20 = -1 → Z 188 21 = -1 → Z 194 = I 194 → ∃ D' G' c' how t', M_X10_walks [mR (some 188), mR (some 192), mI (nI l')] (Z, J1) = some (some (mI how), (rF Z D' G' c', J1)) ∧ Stq none (vw 6 I 1) (vw 12 I 17) (gV_X1_walk 12 (vw 2 X 158) (vw 6 I 1) (vw 12 I 17) (vw 2 X 158 0 1)) (vw 1 I 29) (wks I 31) D' nn vol t' (T + 10001) 0 (fun _ => 0) ∧ Wko (gV_X1_walk 12 (vw 2 X 158) (vw 6 I 1) (vw 12 I 17) (vw 2 X 158 0 1)) (q_X1_walk 12 (vw 2 X 158) (vw 6 I 1) (vw 12 I 17) (vw 2 X 158 0 1)) how c' := by
          intro Z l' pth x158 l12 z20 z21 zD
          have x1 : vw 2 X 158 0 1 = nI l' := x158
          obtain ⟨D', G', c', how, t', w1, w2, w3, w4, w5⟩ := r.walks ip c (fun e _ z => absurd rfl z) rl Z (by rw [z20]; exact Or.inl ⟨rfl, fun _ => rfl⟩) z21 (Z 195) (Z 188 22) rl.s14 (by decide) (P := vw 2 X 158) (lp := l') (m := l') (L := 12) pth.1 (Nat.le_refl _) l12 (by decide) (by omega) pth.2 (vw 2 X 158 0 1) (by rw [x1, ix_nI (by omega)]) (by omega)
          rw [← zD, rF_id] at w1
          exact ⟨D', G', c', how, t', w1, w2, w5⟩
        generalize hQ : q_X1_walk 12 (vw 2 X 158) (vw 6 I 1) (vw 12 I 17) (vw 2 X 158 0 1) = Q at uE walk
        generalize hV1 : gV_X1_walk 12 (vw 2 X 158) (vw 6 I 1) (vw 12 I 17) (vw 2 X 158 0 1) = V1 at uE walk
        rw [if_neg (nI_pos (show k < 2 ^ 31 by omega)), if_pos (show nI k < 6 from nI_lt (b := 6) k6 (by decide)), ix_nI (by omega), if_neg (nI_pos (show k < 2 ^ 31 by omega)), if_pos (show nI k < 6 from nI_lt (b := 6) k6 (by decide)), if_neg (nI_pos (show k < 2 ^ 31 by omega)), if_pos (show nI k < 6 from nI_lt (b := 6) k6 (by decide))] at uE
        have begin_ : ∀ (I1 Y1 Z : MI) (l' : Nat) (how : Int32) (Y2 : MI), M_X10_isPath [mR (some 188)] (I1, J1) = some (some (mI 1), (Y1, J1)) → (∀ k, k ≠ 1 → k ≠ 2 → k ≠ 3 → k ≠ 15 → Y1 188 k = I 188 k) → Y1 194 = I 194 → M_X10_keeps [mR (some 188)] (Y1, J1) = some (none, (Z, J1)) → Z 188 15 = nI l' → M_X10_walks [mR (some 188), mR (some 192), mI (nI l')] (Z, J1) = some (some (mI how), (Y2, J1)) → M_X10_open [mR (some 188)] (I1, J1) = if how = 0 then Ev T_X10_open 56 [some (mR (some 188)), some (mI 0)] [] (Y2, J1) else some (some (mI (-1)), (rfR Y2 4, J1)) := by
          intro I1 Y1 Z l' how Y2 g1 g2 g3 g4 g5 g6
          have t13 : ¬ bz (Y1 188 13) = 0 := by
            rw [g2 13 (by decide) (by decide) (by decide) (by decide)]
            obtain ⟨_, _, _, _, _, z, _⟩ := td
            exact z
          have n6 : ¬ nI (cnt (fun k => decide (¬ Y1 194 (11 + k) = -1)) 0 6) = 6 := fun z => by
            have le := cnt_le (fun k => decide (¬ Y1 194 (11 + k) = -1)) 6 0
            have : cnt (fun k => decide (¬ Y1 194 (11 + k) = -1)) 0 6 = 6 := (nI_eq (b := 6) (by omega) (by decide)).mp z
            rw [cnt_all6] at this
            have := this k k6
            rw [g3, r.B.ha k k6, hk1] at this
            simp at this
          rw [E_X10_open]
          simp only [rl.kt, if_true, g1, Option.bind_some, asI_I, if_neg i10, rl.fz, if_neg t13, w_handleMany rl, if_neg n6, g4, asV_n, rl.f14, rl.fi, g5, g6, w_refuses rl _ (show (4 : Int32) = nI 4 from rfl) (by decide)]
        have neg : ∀ (I1 : MI) (how Qv : Int32), (how = -2 ∨ how = -3) → Q = how → Pair I J T B0 (M_X9_open [mR (some 0)]) (M_X10_open [mR (some 188)]) := by
          intro _ how _ hh hq
          have q0 : Q < 0 := by rw [hq]; rcases hh with z | z <;> rw [z] <;> decide
          rw [if_pos q0, if_pos q0, if_pos q0, if_neg (show ¬ (0 : Int32) ≤ -1 by decide)] at uE
          have oX : ∀ y, y < 17 ∨ 30 ≤ y → y ≠ 186 → rfz (pt (pt X 29 (vw 1 I 29)) 17 V1) 4 y = X y := fun y q q2 => by rw [rfz_o _ _ q2, pt_out (by omega), pt_out (by omega)]
          obtain ⟨Z, Y1, l', g1, g2, g3, g4, l12, pth, x158, z15, zf, fin⟩ := rest (rfz (pt (pt X 29 (vw 1 I 29)) 17 V1) 4) (fun y q q2 => oX y (by omega) q2)
          obtain ⟨D', G', c', how2, t', w1, w2, w5⟩ := walk Z l' pth x158 l12 zf.2.1 zf.2.2.1 zf.1
          have h2 : ¬ how2 = 0 := by
            intro z
            rcases w5 with ⟨_, a', _, z2, _⟩ | ⟨z1, _⟩ | ⟨z1, _⟩
            · rw [z2] at q0; exact nI_pos (show a' < 2 ^ 31 by have := ‹At V1 a'›.1; omega) q0
            · rw [z] at z1; exact absurd z1 (by decide)
            · rw [z] at z1; exact absurd z1 (by decide)
          refine ⟨-1, _, rfR (rF Z D' G' c') 4, J1, uE, ?_, fin1r (k := 4) fin zf h.2.2.2.1 (by decide) (fun j => ?_) ⟨?_, ?_, ?_, fun j hj => ?_⟩ w2.2.1 w2.2.2.1 w2.1⟩
          · rw [begin_ _ _ _ _ _ _ g1 g2 g3 g4 z15 w1, if_neg h2]
          · show rfz (pt (pt X 29 (vw 1 I 29)) 17 V1) 4 186 j = _
            unfold rfz
            rw [up2_r, pt_out (by decide), pt_out (by decide), x186]
          · rw [← e1]; exact vw_fr (fun y _ _ => oX y (by omega) (by omega))
          · rw [vw_fr (I := pt (pt X 29 (vw 1 I 29)) 17 V1) (fun y _ _ => rfz_o _ _ (by omega)), vw_pt]
          · rw [vw_fr (I := pt (pt X 29 (vw 1 I 29)) 17 V1) (fun y _ _ => rfz_o _ _ (by omega)), vw_out _ _ (by decide), vw_pt]
          · rw [wks_fr (I := I) (fun y p q => by rw [oX y (by omega) (by omega), e4 y p (by omega)]) hj]; exact WkEq.refl _
        obtain ⟨Z0, Y0, l0, _, _, _, _, b0, p0, x0, _, f0, _⟩ := rest X (fun _ _ _ => rfl)
        obtain ⟨_, _, _, how0, _, _, s0, w0⟩ := walk Z0 l0 p0 x0 b0 f0.2.1 f0.2.2.1 f0.1
        rcases w0 with ⟨_, a', _, qa, at'⟩ | ⟨z1, z2⟩ | ⟨z1, z2⟩
        · have a64 := at'.1
          have a1 : ¬ V1 1 a' = 0 := by rw [at'.2.1]; exact i10
          rw [qa, if_neg (nI_pos (show a' < 2 ^ 31 by omega)), if_neg (nI_pos (show a' < 2 ^ 31 by omega)), if_neg (nI_pos (show a' < 2 ^ 31 by omega)), if_pos (nI_pos' (show k < 2 ^ 31 by omega))] at uE
          have oX : ∀ y, y < 17 ∨ 30 ≤ y → pt (pt X 29 (uv (vw 1 I 29) 0 k (nI a'))) 17 (gV_X1_hold V1 (nI a')) y = X y := fun y q => by rw [pt_out (by omega), pt_out (by omega)]
          obtain ⟨Z, Y1, l', g1, g2, g3, g4, l12, pth, x158, z15, zf, fin⟩ := rest (pt (pt X 29 (uv (vw 1 I 29) 0 k (nI a'))) 17 (gV_X1_hold V1 (nI a'))) (fun y q _ => oX y (by omega))
          obtain ⟨D', G', c', how, t', w1, w2, w5⟩ := walk Z l' pth x158 l12 zf.2.1 zf.2.2.1 zf.1
          have hc' : how = 0 ∧ c' = nI a' := by
            rcases w5 with ⟨y1, b', y2, y3, y4⟩ | ⟨y1, y2⟩ | ⟨y1, y2⟩
            · refine ⟨y1, ?_⟩
              rw [y2, ← y3, qa]
            · rw [qa] at y2
              exact absurd y2 (fun z => by have := nI_pos (show a' < 2 ^ 31 by omega); rw [z] at this; exact this (by decide))
            · rw [qa] at y2
              exact absurd y2 (fun z => by have := nI_pos (show a' < 2 ^ 31 by omega); rw [z] at this; exact this (by decide))
          obtain ⟨h0, hc'⟩ := hc'
          subst h0 hc'
          have r1 := (w2.1.r5 (V' := gV_X1_hold V1 (nI a')) (fun q _ p5 _ => ho_k _ _ q p5) ⟨by rw [ho_k _ _ _ (by decide)], by rw [ho_k _ _ _ (by decide)], by rw [ho_k _ _ _ (by decide)], by rw [ho_k _ _ _ (by decide)]⟩).hset k6 (nI a') i.N.n60
          have i1 := (w2.2.1.hold a64 a1 (by decide)).hadd a64 (by rw [ho_k _ _ _ (by decide)]; exact a1) (by rw [ho_k _ _ _ (by decide)]; exact at'.2.2) k6 hk1 (fun _ => rfl)
          refine ⟨nI k, _, rF Z (sD D' (11 + k) (nI a')) G' (nI a'), J1, uE, ?_, fin1 fin zf h.2.2.2.1 ?_ ⟨?_, vw_pt _ _ _, ?_, fun j hj => ?_⟩ i1 (w2.2.2.1.fr (ho_k _ _ _ (by decide)) (ho_k _ _ _ (by decide))) r1⟩
          · rw [begin_ _ _ _ _ _ _ g1 g2 g3 g4 z15 w1, if_pos rfl]
            have dh : ∀ j, j < 6 → D' (11 + j) = vw 1 I 29 0 j := fun j hj => w2.1.B.ha j hj
            have go : ∀ j, j ≤ k → Ev T_X10_open 56 [some (mR (some 188)), some (mI 0)] [] (rF Z D' G' (nI a'), J1) = Ev T_X10_open 56 [some (mR (some 188)), some (mI (nI j))] [] (rF Z D' G' (nI a'), J1) := by
              intro j
              induction j with
              | zero => intro _; rfl
              | succ j ih =>
                intro hj
                have e11 : (11 : Int32) + nI j = nI (11 + j) := nI_add 11 j
                have nj : ¬ vw 1 I 29 0 j = -1 := fun z => by
                  have := kmin j (Nat.zero_le _) (by omega)
                  rw [if_pos z] at this
                  cases this
                rw [ih (by omega), E_X10_open_56]
                simp only [rl.f18, Option.bind_some, rl.ldD _ e11 (show 11 + j < 1853 by omega), rF_D, dh j (by omega), if_neg nj, nI_1]
            have e11 : (11 : Int32) + nI k = nI (11 + k) := nI_add 11 k
            rw [go k (Nat.le_refl _), E_X10_open_56]
            simp only [rl.f18, Option.bind_some, rl.ldD _ e11 (show 11 + k < 1853 by omega), rF_D, dh k k6, hk1, if_true, rl.fi, rF_c, rl.stD _ _ e11 (show 11 + k < 1853 by omega), rF_sD]
          · rw [oX 186 (by decide)]; exact x186
          · rw [← e1]; exact vw_fr (fun y _ _ => oX y (by omega))
          · rw [vw_out _ _ (by decide), vw_pt]
          · rw [wks_fr (I := I) (fun y p q => by rw [oX y (by omega), e4 y p (by omega)]) hj]; exact WkEq.refl _
        · exact neg X (-2) 0 (Or.inl rfl) z2
        · exact neg X (-3) 0 (Or.inr rfl) z2
    · refine absurd hy ?_
      unfold rowO
      rw [if_pos (by rw [u.2.2.1.2.1]; exact Int32.le_refl _)]
      exact (by decide : ¬ (-1 : Int32) = 1)
  · exact Pair.path_no h h30 t1 t2 t3 hy (by decide) (u_open_no h.1.1 I T4 t1.2.1 hy) Rfs.opn
end
section
/-! Questions about nodes, entries, walkers. -/
theorem St.rf {I : MI} {J : MJ} {T B0 : Nat} {D G : RowV} {c : Int32} (h : St I J T B0) (h30 : T + 10001 ≤ 1000000000) (hD : ∀ k, k < 1853 → D k = I 194 k) : St (rF I D G c) J (T + 10001) B0 := by
  have o : ∀ x, x ≠ 188 → x ≠ 194 → x ≠ 195 → rF I D G c x = I x := fun x a b d => rF_o _ _ _ _ a b d
  have k : ∀ j, j ≠ 22 → rF I D G c 188 j = I 188 j := fun j a => rF_k _ _ _ _ a
  obtain ⟨L, s7⟩ := h.2.2.2.2.2.2.2.1
  refine h.sm (h.2.1.fr (o _ (by decide) (by decide) (by decide)) (o _ (by decide) (by decide) (by decide)) (k _ (by decide)) (o _ (by decide) (by decide) (by decide))) (h.2.2.1.fr (o _ (by decide) (by decide) (by decide)) (k _ (by decide)) (k _ (by decide))) (h.2.2.2.1.fr (o _ (by decide) (by decide) (by decide)) (o _ (by decide) (by decide) (by decide))) (h.2.2.2.2.1.fr (by rw [o 0 (by decide) (by decide) (by decide)]) (o _ (by decide) (by decide) (by decide)) (k _ (by decide)) (o _ (by decide) (by decide) (by decide))) (h.2.2.2.2.2.1.fr (by rw [o 0 (by decide) (by decide) (by decide)]) (o _ (by decide) (by decide) (by decide)) (k _ (by decide)) (o _ (by decide) (by decide) (by decide))) ⟨L, s7.fr (by rw [o 69 (by decide) (by decide) (by decide)]) (by rw [o 69 (by decide) (by decide) (by decide)]) (fun y _ _ => o y (by omega) (by omega) (by omega)) (k _ (by decide)) (k _ (by decide)) (o _ (by decide) (by decide) (by decide)) (o _ (by decide) (by decide) (by decide))⟩ (h.2.2.2.2.2.2.2.2.1.fr (k _ (by decide)) (k _ (by decide))) (fun y a _ _ _ _ _ => o y (by omega) (by omega) (by omega)) (o _ (by decide) (by decide) (by decide)) (fun _ => ⟨by rw [o 69 (by decide) (by decide) (by decide)], by rw [o 69 (by decide) (by decide) (by decide)]⟩) (fun y a => o y (by omega) (by omega) (by omega)) (fun j q => k j (by omega)) (fun j hj => by rw [rF_D]; exact hD j hj) (o _ (by decide) (by decide) (by decide)) (by omega) h30
theorem lt60 {x : Int32} {n : Nat} (h0 : ¬ x < 0) (hn : n ≤ 60) (h : ¬ nI n ≤ x) : ix x < n := by
  rcases Nat.lt_or_ge (ix x) n with z | z
  · exact z
  · exact absurd (by rw [nI_ix h0]; exact nI_le z (ix_lt x)) h
theorem w_isNode {I : MI} {J : MJ} (h : RefL J) {U : NodV} {V : MemV} {H : OneV} {W : WkV} {n vol : Nat} (td : ¬ bz (I 188 13) = 0) (hN : NodI U n vol) (r : Rel none U V H W (I 194) n) (x : Int32) : M_X10_isNode [mR (some 188), mI x] (I, J) = some (some (mI (q_X2_exists U x)), (I, J)) ∧ (¬ q_X2_exists U x = 0 → x = nI (ix x) ∧ ix x < n ∧ ¬ U 4 (ix x) = 0) := by
  have n60 := hN.n60
  have ev : I 194 4 = nI n := r.B.ev.trans hN.ev
  have key : q_X2_exists U x = if x < 0 then 0 else if nI n ≤ x then 0 else if U 4 (ix x) = 0 then 0 else 1 := by
    unfold q_X2_exists
    rw [hN.ev]
    by_cases a : x < 0
    · rw [if_pos a, if_pos a]
    · rw [if_neg a, if_neg a]
      by_cases b : nI n ≤ x
      · rw [if_pos b]
        split <;> rfl
      · rw [if_neg b, if_neg]
        intro z
        have := lt60 a n60 b
        rw [nI_ix a] at z
        exact nI_ge (b := 60) (show ix x < 60 by omega) (by decide) z
  have lst : nI n - 1 < x ↔ nI n ≤ x ∨ (n = 0 ∧ ¬ x < 0) := by
    rw [Int32.lt_iff_toInt_lt, Int32.le_iff_toInt_le, Int32.lt_iff_toInt_lt, Int32.toInt_sub, nI_toInt (by omega)]
    have e1 : (1 : Int32).toInt = 1 := rfl
    have e0 : (0 : Int32).toInt = 0 := rfl
    rw [e1, e0, Int.bmod_eq_of_le (by omega) (by omega)]
    omega
  constructor
  · rw [E_X10_isNode]
    simp only [h.fz, Option.bind_some, if_neg td, h.f18, h.ldD _ (show (4 : Int32) = nI 4 from rfl) (show 4 < 1853 by decide), ev, w_isIn x 0 (nI n - 1) _ (show (0 : Int64) = Int32.toInt64 0 from rfl) rfl, asI_I]
    rw [key]
    by_cases a : x < 0
    · simp [a]
    · rw [if_neg a, if_neg a]
      by_cases b : nI n ≤ x
      · rw [if_pos (lst.mpr (Or.inl b)), if_pos b]
        simp
      · have lt := lt60 a n60 b
        rw [if_neg (fun z => (lst.mp z).elim b (fun w => by omega)), if_neg b, if_neg i10]
        have xn : x = nI (ix x) := nI_ix a
        have nd := r.B.nd (ix x) lt
        rw [xn]
        simp only [h.kt, if_true, w_nodeHas h I 4 (show (4 : Int32) = nI 4 from rfl) (show ix x < 60 by omega) (by decide), Option.bind_some, asI_I, nd.2.2.2.1]
        rw [ix_nI (ix_lt x)]
        by_cases z : U 4 (ix x) = 0
        · simp [z]
        · simp [z]
  · intro q
    rw [key] at q
    by_cases a : x < 0
    · rw [if_pos a] at q; exact absurd rfl q
    · rw [if_neg a] at q
      by_cases b : nI n ≤ x
      · rw [if_pos b] at q; exact absurd rfl q
      · rw [if_neg b] at q
        refine ⟨nI_ix a, lt60 a n60 b, fun z => ?_⟩
        rw [if_pos z] at q
        exact q rfl
theorem w_isEntry {I : MI} {J : MJ} (h : RefL J) {U : NodV} {V : MemV} {H : OneV} {W : WkV} {n : Nat} (td : ¬ bz (I 188 13) = 0) (r : Rel none U V H W (I 194) n) (x : Int32) : M_X10_isEntry [mR (some 188), mI x] (I, J) = some (some (mI (q_X1_isEntry V x)), (I, J)) ∧ (¬ q_X1_isEntry V x = 0 → x = nI (ix x) ∧ ix x < 64 ∧ ¬ V 1 (ix x) = 0) := by
  have lst : (127 : Int32) < x ↔ (128 : Int32) ≤ x := by
    rw [Int32.lt_iff_toInt_lt, Int32.le_iff_toInt_le]
    have a : (127 : Int32).toInt = 127 := rfl
    have b : (128 : Int32).toInt = 128 := rfl
    omega
  have l64 : ¬ x < 0 → ¬ (64 : Int32) ≤ x → ix x < 64 := fun a b => by
    rcases Nat.lt_or_ge (ix x) 64 with z | z
    · exact z
    · exact absurd (by rw [nI_ix a]; exact nI_le (a := 64) z (ix_lt x)) b
  constructor
  · rw [E_X10_isEntry]
    simp only [h.fz, Option.bind_some, if_neg td, w_isIn x 0 127 _ (show (0 : Int64) = Int32.toInt64 0 from rfl) (show (127 : Int64) = Int32.toInt64 127 from rfl), asI_I]
    unfold q_X1_isEntry
    by_cases a : x < 0
    · simp [a]
    · rw [if_neg a, if_neg a]
      by_cases b : (128 : Int32) ≤ x
      · rw [if_pos (lst.mpr b), if_pos (Int32.le_trans (by decide) b)]
        simp
      · have xn : x = nI (ix x) := nI_ix a
        have l128 : ix x < 128 := by
          rcases Nat.lt_or_ge (ix x) 128 with z | z
          · exact z
          · exact absurd (by rw [xn]; exact nI_le (a := 128) z (ix_lt x)) b
        rw [if_neg (fun z => b (lst.mp z)), if_neg i10]
        have w : M_X10_its [mR (some 188), mI x, mI 0] (I, J) = some (some (mI (I 194 (701 + 9 * ix x + 0))), (I, J)) := by
          rw [xn]
          have := w_its h I 0 (show (0 : Int32) = nI 0 from rfl) l128 (by decide)
          rw [ix_nI (ix_lt x)]
          exact this
        simp only [h.kt, if_true, w, Option.bind_some, asI_I]
        by_cases c : (64 : Int32) ≤ x
        · have : ¬ ix x < 64 := fun z => nI_ge (b := 64) z (by decide) (by rw [xn] at c; exact c)
          rw [r.B.th0 l128 (fun z => absurd z this), if_pos c]
          simp
        · rw [if_neg c]
          by_cases z : V 1 (ix x) = 0
          · rw [r.B.th0 l128 (fun _ => z), if_pos z]
            simp
          · rw [r.B.th1 (l64 a c) z, if_neg z]
            simp
  · intro q
    unfold q_X1_isEntry at q
    by_cases a : x < 0
    · rw [if_pos a] at q; exact absurd rfl q
    · rw [if_neg a] at q
      by_cases b : (64 : Int32) ≤ x
      · rw [if_pos b] at q; exact absurd rfl q
      · rw [if_neg b] at q
        refine ⟨nI_ix a, l64 a b, fun z => ?_⟩
        rw [if_pos z] at q
        exact q rfl
theorem w_nodeMany {I : MI} {J : MJ} (h : RefL J) {U : NodV} {V : MemV} {H : OneV} {W : WkV} {n vol : Nat} (hN : NodI U n vol) (r : Rel none U V H W (I 194) n) (x : Int32) : M_X10_nodeMany [mR (some 188), mI x] (I, J) = some (some (mI (if x = -1 then q_X2_howMany U else q_X2_howManyIn U x)), (I, J)) := by
  have n60 := hN.n60
  have ev : I 194 4 = nI n := r.B.ev.trans hN.ev
  rw [E_X10_nodeMany]
  have step := loop_cnt (fun k c => Ev T_X10_nodeMany 4 [some (mR (some 188)), some (mI x), some (mI (nI c)), some (mI (nI k))] [] (I, J)) (fun k => if x = -1 then decide (¬ U 4 k = 0) else decide (¬ U 4 k = 0 ∧ U 2 k = x)) n (fun k c hk => by
    try dsimp only
    have nd := r.B.nd k hk
    rw [E_X10_nodeMany_4]
    simp only [h.f18, Option.bind_some, h.ldD _ (show (4 : Int32) = nI 4 from rfl) (show 4 < 1853 by decide), ev]
    rw [if_neg (nI_ge hk (by omega))]
    simp only [h.kt, if_true, w_nodeHas h I 4 (show (4 : Int32) = nI 4 from rfl) (show k < 60 by omega) (by decide), w_nodeHas h I 2 (show (2 : Int32) = nI 2 from rfl) (show k < 60 by omega) (by decide), Option.bind_some, asI_I, nI_1, nd.2.1, nd.2.2.2.1]
    by_cases a : U 4 k = 0
    · simp [a]
    · by_cases b : x = -1
      · simp [a, b]
      · by_cases d : U 2 k = x
        · simp [a, b, d]
        · simp [a, b, d]) n 0 0 (by omega)
  try dsimp only at step
  rw [show (nI 0) = 0 from rfl] at step
  rw [step, E_X10_nodeMany_4]
  simp only [h.f18, Option.bind_some, h.ldD _ (show (4 : Int32) = nI 4 from rfl) (show 4 < 1853 by decide), ev]
  rw [if_pos (Int32.le_refl _), Nat.zero_add]
  unfold q_X2_howMany q_X2_howManyIn
  rw [hN.evn]
  by_cases b : x = -1
  · simp [b]
  · simp [b]
theorem P_node {I : MI} {J : MJ} {T B0 : Nat} (h : St I J T B0) (h30 : T + 10001 ≤ 1000000000) (x y : Int32) : Pair I J T B0 (M_X9_node [mR (some 0), mI x, mI y]) (M_X10_node [mR (some 188), mI x, mI y]) := by
  rcases h.2.2.2.2.2.2.2.2.2 with ⟨vol, ad, p, q, _, td, ⟨nn, t, i, _, r⟩, _⟩ | u
  · have wn := w_isNode h.1.2 td i.N r x
    refine Pair.ask h h30 (u_node h.1.1 I x y) (w := q_X2_tell (vw 6 I 1) x y) ?_ rfl
    rw [E_X10_node]
    simp only [h.1.2.kt, if_true, wn.1, Option.bind_some, asI_I]
    unfold q_X2_tell
    by_cases a : q_X2_exists (vw 6 I 1) x = 0
    · rw [if_pos a, if_pos a]
    · obtain ⟨b1, b2, b3⟩ := wn.2 a
      have n60 := i.N.n60
      have nd := r.B.nd (ix x) b2
      have nh : ∀ f, f < 5 → ∀ z : Int32, z = nI f → M_X10_nodeHas [mR (some 188), mI x, mI z] (I, J) = some (some (mI (I 194 (401 + 5 * ix x + f))), (I, J)) := fun f hf z hz => by
        have := w_nodeHas h.1.2 I f hz (show ix x < 60 by omega) hf
        rw [← b1] at this
        exact this
      have nx : ¬ x = -1 := by rw [b1]; exact nI_m1 (ix_lt x)
      rw [if_neg a, if_neg a]
      simp only [nh 0 (by decide) 0 rfl, nh 1 (by decide) 1 rfl, nh 2 (by decide) 2 rfl, w_nodeMany h.1.2 i.N r x, if_neg nx, Option.bind_some, asI_I, nd.1, nd.2.1, nd.2.2.2.2 b3]
      by_cases y0 : y = 0
      · simp [y0]
      · by_cases y1 : y = 1
        · simp [y1]
        · by_cases y2 : y = 2
          · simp [y2]
          · by_cases y3 : y = 3
            · simp [y3]
            · simp [y0, y1, y2, y3]
  · refine Pair.ask h h30 (u_node h.1.1 I x y) (w := -1) ?_ ?_
    · rw [E_X10_node, E_X10_isNode]
      simp [h.1.2.kt, h.1.2.fz, u.2.1, asI]
    · unfold q_X2_tell q_X2_exists
      rw [if_pos]
      have e5 : vw 6 I 1 0 5 = 0 := u.2.2.1.1
      rw [e5]
      by_cases a : x < 0
      · rw [if_pos a]
      · rw [if_neg a]
        by_cases b : (60 : Int32) ≤ x
        · rw [if_pos b]
        · rw [if_neg b, if_pos (Int32.not_lt.mp a)]
theorem P_entry {I : MI} {J : MJ} {T B0 : Nat} (h : St I J T B0) (h30 : T + 10001 ≤ 1000000000) (x y : Int32) : Pair I J T B0 (M_X9_entry [mR (some 0), mI x, mI y]) (M_X10_entry [mR (some 188), mI x, mI y]) := by
  rcases h.2.2.2.2.2.2.2.2.2 with ⟨vol, ad, p, q, _, td, ⟨nn, t, i, _, r⟩, _⟩ | u
  · have wn := w_isEntry h.1.2 td r x
    by_cases a : q_X1_isEntry (vw 12 I 17) x = 0
    · refine Pair.ask h h30 (u_entry h.1.1 I x y) (w := -1) ?_ ?_
      · rw [E_X10_entry]
        simp only [h.1.2.kt, if_true, wn.1, Option.bind_some, asI_I, if_pos a]
      · unfold q_X1_tell
        rw [if_pos a]
    · obtain ⟨b1, b2, b3⟩ := wn.2 a
      have en := r.B.en (ix x) b2 b3
      have nh : ∀ f, f < 9 → ∀ z : Int32, z = nI f → M_X10_its [mR (some 188), mI x, mI z] (I, J) = some (some (mI (I 194 (701 + 9 * ix x + f))), (I, J)) := fun f hf z hz => by
        have := w_its h.1.2 I f hz (show ix x < 128 by omega) hf
        rw [← b1] at this
        exact this
      by_cases y2 : y = 2
      · have s8 := h.2.2.2.2.2.2.2.2.1
        obtain ⟨G', g1, g2⟩ := r.counts i h.1.2 I (Or.inl ⟨s8.1, fun _ => rfl⟩) (I 195) (I 188 22)
        rw [rF_id] at g1
        refine ⟨_, _, rF I (I 194) G' (I 188 22), J, u_entry h.1.1 I x y, ?_, h.rf h30 (fun _ _ => rfl)⟩
        rw [E_X10_entry]
        have e : q_X1_tell (vw 12 I 17) x y = vw 12 I 17 5 (ix x) := by
          unfold q_X1_tell
          subst y2
          rw [if_neg a, if_neg (by decide), if_neg (by decide), if_pos rfl]
        have e5 : vw 12 I 17 5 (ix x) = G' (ix x) := by
          have p0 : pnd none (vw 12 I 17) (wks I 31) (ix x) = 0 := rfl
          rw [g2 (ix x) b2 b3, ((i.L (ix x) b2).2.2 b3).1, p0, Nat.add_zero]
        subst y2
        simp only [h.1.2.kt, if_true, wn.1, Option.bind_some, asI_I, if_neg a, if_neg (show ¬ (2 : Int32) = 0 by decide), if_neg (show ¬ (2 : Int32) = 1 by decide), g1, asV_n, h.1.2.f19, h.1.2.ldG _ b1 (show ix x < 128 by omega), rF_G]
        rw [e, e5]
      · refine Pair.ask h h30 (u_entry h.1.1 I x y) (w := q_X1_tell (vw 12 I 17) x y) ?_ rfl
        rw [E_X10_entry]
        unfold q_X1_tell
        have cv : q_X1_coveringVolume (vw 12 I 17) (nI (ix x)) = q_X1_coveringVolume (vw 12 I 17) x := by rw [← b1]
        simp only [h.1.2.kt, if_true, wn.1, Option.bind_some, asI_I, if_neg a, if_neg y2, nh 1 (by decide) 1 rfl, nh 3 (by decide) 3 rfl, nh 4 (by decide) 4 rfl, nh 5 (by decide) 5 rfl, nh 6 (by decide) 6 rfl, nh 7 (by decide) 7 rfl, nh 8 (by decide) 8 rfl, en.1, en.2.2.1, en.2.2.2.1, en.2.2.2.2.1, en.2.2.2.2.2.1, en.2.2.2.2.2.2.1, en.2.2.2.2.2.2.2, cv]
        by_cases y0 : y = 0
        · simp [y0]
        · by_cases y1 : y = 1
          · simp [y1]
          · by_cases y3 : y = 3
            · simp [y3]
            · by_cases y4 : y = 4
              · simp [y4]
              · by_cases y5 : y = 5
                · simp [y5]
                · by_cases y6 : y = 6
                  · simp [y6]
                  · by_cases y7 : y = 7
                    · simp [y7]
                    · simp [y0, y1, y3, y4, y5, y6, y7]
  · refine Pair.ask h h30 (u_entry h.1.1 I x y) (w := -1) ?_ ?_
    · rw [E_X10_entry, E_X10_isEntry]
      simp [h.1.2.kt, h.1.2.fz, u.2.1, asI]
    · unfold q_X1_tell q_X1_isEntry
      rw [if_pos]
      by_cases a : x < 0
      · rw [if_pos a]
      · rw [if_neg a]
        by_cases b : (64 : Int32) ≤ x
        · rw [if_pos b]
        · rw [if_neg b, if_pos]
          refine u.2.2.1.2.2.1 (ix x) ?_
          rcases Nat.lt_or_ge (ix x) 64 with z | z
          · exact z
          · exact absurd (by rw [nI_ix a]; exact nI_le (a := 64) z (ix_lt x)) b
end
section
/-! Questions about walkers; what there is. -/
theorem w_isWalker {I : MI} {J : MJ} (h : RefL J) {U : NodV} {V : MemV} {H : OneV} {n : Nat} (td : ¬ bz (I 188 13) = 0) (r : Rel none U V H (wks I 31) (I 194) n) (Y : MI) (e188 : Y 188 13 = I 188 13) (e194 : Y 194 = I 194) (x : Int32) : (q_X8_walkerAt I 31 x = none ∧ M_X10_isWalker [mR (some 188), mI x] (Y, J) = some (some (mI 0), (Y, J))) ∨ ∃ k, k < 4 ∧ x = nI k ∧ q_X8_walkerAt I 31 x = some (31 + 6 * k) ∧ ¬ bz ((wks I 31 k).1 0 5) = 0 ∧ M_X10_isWalker [mR (some 188), mI x] (Y, J) = some (some (mI 1), (Y, J)) := by
  have td' : ¬ bz (Y 188 13) = 0 := by rw [e188]; exact td
  rw [E_X10_isWalker]
  simp only [h.fz, Option.bind_some, if_neg td', w_isIn x 0 3 _ (show (0 : Int64) = Int32.toInt64 0 from rfl) (show (3 : Int64) = Int32.toInt64 3 from rfl), asI_I]
  unfold q_X8_walkerAt
  by_cases a : x < 0
  · left
    simp [a]
  · by_cases b : (4 : Int32) ≤ x
    · left
      rw [if_neg a, if_pos b, if_neg a, if_pos (three.mpr b)]
      simp
    · have k4 := lt4 a b
      have xn : x = nI (ix x) := nI_ix a
      have ws := (r.K (ix x) k4).ws
      have wd : M_X10_walkerHas [mR (some 188), mI x, mI 0] (Y, J) = some (some (mI (bz ((wks I 31 (ix x)).1 0 5))), (Y, J)) := by
        have := w_walkerHas h Y 0 (show (0 : Int32) = nI 0 from rfl) k4 (by decide)
        rw [← xn, e194, ws] at this
        exact this
      have wzq : wz I 31 (ix x) = bz ((wks I 31 (ix x)).1 0 5) := rfl
      rw [if_neg a, if_neg b, wzq, if_neg a, if_neg (fun z => b (three.mp z)), if_neg i10]
      simp only [h.kt, if_true, wd, Option.bind_some, asI_I]
      by_cases z : bz ((wks I 31 (ix x)).1 0 5) = 0
      · left
        rw [if_pos z, z]
        simp
      · right
        refine ⟨ix x, k4, xn, by rw [if_neg z], z, ?_⟩
        rw [(bz_or _).resolve_left z]
        simp
theorem P_walker {I : MI} {J : MJ} {T B0 : Nat} (h : St I J T B0) (h30 : T + 10001 ≤ 1000000000) (x y : Int32) : Pair I J T B0 (M_X9_walker [mR (some 0), mI x, mI y]) (M_X10_walker [mR (some 188), mI x, mI y]) := by
  rcases h.2.2.2.2.2.2.2.2.2 with ⟨vol, ad, p, q, _, td, ⟨nn, t, i, _, r⟩, _⟩ | u
  · rcases w_isWalker h.1.2 td r I rfl rfl x with ⟨a1, a2⟩ | ⟨k, k4, xk, a1, a3, a2⟩
    · refine Pair.ask h h30 (u_walker h.1.1 I x y) (w := -1) ?_ ?_
      · rw [E_X10_walker]
        simp [h.1.2.kt, a2, asI]
      · unfold tlw
        rw [a1]
    · subst xk
      obtain ⟨m, d, l, rr, _, hw⟩ := i.W k k4 a3
      have b1 := hw.md
      have b2 := hw.dl
      have b3 := hw.l12
      have b4 := hw.m1
      have un := (r.K k k4).un a3
      have wM := r.M k k4 a3 (fun z => by cases z)
      have nh : ∀ f, f < 96 → ∀ z : Int32, z = nI f → M_X10_walkerHas [mR (some 188), mI (nI k), mI z] (I, J) = some (some (mI (I 194 (17 + 96 * k + f))), (I, J)) := fun f hf z hz => w_walkerHas h.1.2 I f hz k4 hf
      have lw : q_X7_lastOfWay (wks I 31 k).1 (wks I 31 k).2.2 = (wks I 31 k).2.2 0 (m - 1) := by
        unfold q_X7_lastOfWay
        rw [hw.m, if_neg (nI_nle (by omega) (by omega)), if_neg (show ¬ (25 : Int32) < nI m from nI_nlt (a := 25) (by omega) (by omega)), show nI m - 1 = nI (m - 1) from nI_sub (b := 1) (by omega), ix_nI (by omega)]
      have wy := (r.K k k4).wy a3 (m - 1) (by omega) (by rw [hw.m, ix_nI (by omega)]; omega)
      refine Pair.ask h h30 (u_walker h.1.1 I (nI k) y) (w := q_X7_tell 12 (wks I 31 k).1 (wks I 31 k).2.1 (wks I 31 k).2.2 y) ?_ ?_
      · rw [E_X10_walker]
        have e5 : (18 : Int32) + 3 * (nI m - 1) = nI (18 + 3 * (m - 1)) := by
          rw [show nI m - 1 = nI (m - 1) from nI_sub (b := 1) (by omega), show (18 : Int32) = nI 18 from rfl, show (3 : Int32) = nI 3 from rfl, nI_mul, nI_add]
        simp only [h.1.2.kt, if_true, a2, Option.bind_some, asI_I, if_neg i10, nh 1 (by decide) 1 rfl, nh 2 (by decide) 2 rfl, nh 3 (by decide) 3 rfl, nh 4 (by decide) 4 rfl, nh 5 (by decide) 5 rfl, un.1, un.2.1, un.2.2.1, un.2.2.2, wM, hw.m, nh (18 + 3 * (m - 1)) (by omega) _ e5, wy.1]
        unfold q_X7_tell
        rw [lw, hw.m]
        have bb : (if bz ((wks I 31 k).1 0 6) = 0 then (0 : Int32) else 1) = bz ((wks I 31 k).1 0 6) := by
          rcases bz_or ((wks I 31 k).1 0 6) with z | z
          · rw [if_pos z, z]
          · rw [z, if_neg i10]
        rw [bb]
        by_cases y0 : y = 0
        · simp [y0]
        · by_cases y1 : y = 1
          · simp [y1]
          · by_cases y2 : y = 2
            · simp [y2]
            · by_cases y3 : y = 3
              · simp [y3]
              · by_cases y4 : y = 4
                · simp [y4]
                · by_cases y5 : y = 5
                  · simp [y5]
                  · simp [y0, y1, y2, y3, y4, y5]
      · unfold tlw
        rw [a1]
        rfl
  · refine Pair.ask h h30 (u_walker h.1.1 I x y) (w := -1) ?_ ?_
    · rw [E_X10_walker, E_X10_isWalker]
      simp [h.1.2.kt, h.1.2.fz, u.2.1, asI]
    · unfold tlw q_X8_walkerAt
      by_cases a : x < 0
      · rw [if_pos a]
      · rw [if_neg a]
        by_cases b : (4 : Int32) ≤ x
        · rw [if_pos b]
        · rw [if_neg b, if_pos (show wz I 31 (ix x) = 0 from u.2.2.1.2.2.2.2.2.2 _ (lt4 a b))]
theorem w_walkerMany {J : MJ} (h : RefL J) (I : MI) (hb : ∀ k, k < 4 → I 194 (17 + 96 * k + 0) = 0 ∨ I 194 (17 + 96 * k + 0) = 1) : M_X10_walkerMany [mR (some 188)] (I, J) = some (some (mI (nI (cnt (fun k => decide (¬ I 194 (17 + 96 * k + 0) = 0)) 0 4))), (I, J)) := by
  rw [show M_X10_walkerMany [mR (some 188)] (I, J) = Ev T_X10_walkerMany 4 [some (mR (some 188)), some (mI 0), some (mI 0)] [] (I, J) from E_X10_walkerMany 188 (I, J)]
  have step := loop_cnt (fun k c => Ev T_X10_walkerMany 4 [some (mR (some 188)), some (mI (nI c)), some (mI (nI k))] [] (I, J)) (fun k => decide (¬ I 194 (17 + 96 * k + 0) = 0)) 4 (fun k c hk => by
    try dsimp only
    rw [E_X10_walkerMany_4, if_neg (show ¬ (4 : Int32) ≤ nI k from nI_ge hk (by decide))]
    simp only [h.kt, if_true, w_walkerHas h I 0 (show (0 : Int32) = nI 0 from rfl) hk (by decide), Option.bind_some, asI_I, nI_1]
    rcases hb k hk with z | z
    · rw [z]
      simp
    · rw [z]
      simp [nI_1]) 4 0 0 (by omega)
  try dsimp only at step
  rw [show (nI 0) = 0 from rfl] at step
  rw [step, E_X10_walkerMany_4, if_pos (show (4 : Int32) ≤ nI 4 by decide), Nat.zero_add]
theorem w_mounted {J : MJ} (h : RefL J) (I : MI) (V : MemV) (hv : ∀ v, v < 3 → I 194 (5 + v) = V 9 v) : M_X10_mounted [mR (some 188)] (I, J) = some (some (mI (q_X1_mountedBits V)), (I, J)) := by
  rw [E_X10_mounted]
  unfold q_X1_mountedBits o_X1_mountedBits
  have go : ∀ (nn k : Nat) (x : Int32), k + nn = 3 → Ev T_X10_mounted 4 [some (mR (some 188)), some (mI x), some (mI (nI k))] [] (I, J) = some (some (mI (lp_X1_mountedBits_4 V nn k x)), (I, J)) := by
    intro nn
    induction nn with
    | zero =>
      intro k x hk
      have : k = 3 := by omega
      subst this
      rw [E_X10_mounted_4, if_pos (show (3 : Int32) ≤ nI 3 by decide)]
      rfl
    | succ nn ih =>
      intro k x hk
      have e5 : (5 : Int32) + nI k = nI (5 + k) := nI_add 5 k
      rw [E_X10_mounted_4, if_neg (show ¬ (3 : Int32) ≤ nI k from nI_ge (b := 3) (by omega) (by decide))]
      simp only [h.f18, Option.bind_some, h.ldD _ e5 (show 5 + k < 1853 by omega), hv k (by omega), nI_1]
      unfold lp_X1_mountedBits_4
      by_cases z : V 9 k = -1
      · rw [if_pos z, if_pos z, Int32.or_zero]
        exact ih (k + 1) x (by omega)
      · rw [if_neg z, if_neg z]
        exact ih (k + 1) _ (by omega)
  exact go 3 0 0 (by omega)
/-- entries of a sort, counted by the reference -/
def ewB (V : MemV) (what : Int32) (k : Nat) : Bool := if V 1 k = 0 then false else if what = 3 then decide (V 4 k = -1) else if what = 4 then decide (V 1 k = 1 ∧ V 5 k = 0 ∧ ¬ V 2 k = -1) else decide (V 1 k = 2)
theorem Rel.entriesWith {U : NodV} {V : MemV} {H : OneV} {W : WkV} {D : RowV} {n vol t T : Nat} (r : Rel none U V H W D n) (i : Inv U V H W n vol t T (fun _ => 0)) {J : MJ} (h : RefL J) (I : MI) (hb : I 188 20 = -1) (G : RowV) (c : Int32) (x : Int32) : ∃ G', M_X10_entriesWith [mR (some 188), mI x] (rF I D G c, J) = some (some (mI (nI (cnt (ewB V x) 0 64))), (rF I D G' c, J)) := by
  obtain ⟨G', g1, g2⟩ := r.counts i h I (Or.inl ⟨hb, fun _ => rfl⟩) G c
  refine ⟨G', ?_⟩
  rw [E_X10_entriesWith]
  simp only [h.kt, if_true, g1, Option.bind_some, asV_n]
  have step := loop_cnt (fun k c' => Ev T_X10_entriesWith 8 [some (mR (some 188)), some (mI x), some (mI (nI c')), some (mI (nI k))] [] (rF I D G' c, J)) (fun k => decide (k < 64) && ewB V x k) 128 (fun k c' hk => by
    try dsimp only
    rw [E_X10_entriesWith_8, if_neg (show ¬ (128 : Int32) ≤ nI k from nI_ge hk (by decide))]
    simp only [h.kt, if_true, w_its h _ 0 (show (0 : Int32) = nI 0 from rfl) hk (by decide), w_its h _ 3 (show (3 : Int32) = nI 3 from rfl) hk (by decide), w_its h _ 8 (show (8 : Int32) = nI 8 from rfl) hk (by decide), w_isRootB h, h.f19, h.ldG _ rfl hk, Option.bind_some, asI_I, rF_D, rF_G, nI_1, w_flag]
    by_cases l : k < 64 ∧ ¬ V 1 k = 0
    · have en := r.B.en k l.1 l.2
      rw [r.B.th1 l.1 l.2, if_neg i10, en.2.2.1, en.2.2.2.2.2.2.2]
      unfold ewB
      rw [if_neg l.2]
      by_cases x3 : x = 3
      · subst x3
        by_cases z : V 4 k = -1
        · simp [z, l.1, nI_1]
        · simp [z]
      · rw [if_neg x3, if_neg x3]
        by_cases x4 : x = 4
        · subst x4
          have p0 : pnd none V W k = 0 := rfl
          have hL := (i.L k l.1).2.2 l.2
          have hL1 : nI (hc V H W k) = V 5 k := by
            have := hL.1
            rw [Nat.add_zero] at this
            exact this.symm
          rw [g2 k l.1 l.2, p0, Nat.add_zero, hL1]
          rcases i.M.st k l.1 with s | s | s
          · exact absurd s l.2
          · by_cases v5 : V 5 k = 0
            · by_cases v2 : V 2 k = -1
              · obtain ⟨v, v3, v4⟩ := i.M.ro k l.1 s v2
                rw [(r.eqr (nI k)).mpr ⟨v, v3, v4⟩]
                simp [s, v5, v2]
              · have nr : ¬ rtB D (nI k) = true := by
                  rw [r.eqr]
                  rintro ⟨v, v3, v4⟩
                  rcases i.M.rt v v3 with ⟨y, _⟩ | ⟨_, f, q64, y1, y2, y3, _⟩
                  · rw [y] at v4
                    exact nI_m1 (show k < 2 ^ 31 by omega) v4.symm
                  · have : f = k := (nI_eq (by omega) (by omega)).mp (y1.symm.trans v4)
                    rw [this] at y3
                    exact v2 y3
                simp [s, v5, v2, nr, l.1, nI_1]
            · simp [s, v5]
          · have v5 : ¬ V 5 k = 0 := fun z => by
              have := (i.hz l.1 l.2).mp z
              have := hL.2 s
              omega
            simp [s, v5]
        · rw [if_neg x4, if_neg x4]
          by_cases z : V 1 k = 2
          · simp [z, l.1, nI_1]
          · simp [z]
    · have th0 : D (701 + 9 * k + 0) = 0 := by rw [r.B.th k hk, if_neg l]
      rw [th0, if_pos rfl]
      by_cases k64 : k < 64
      · have : V 1 k = 0 := Classical.byContradiction (fun z => l ⟨k64, z⟩)
        simp [ewB, this]
      · simp [k64]) 128 0 0 (by omega)
  try dsimp only at step
  rw [show (nI 0) = 0 from rfl] at step
  rw [step, E_X10_entriesWith_8, if_pos (show (128 : Int32) ≤ nI 128 by decide), Nat.zero_add]
  have e : cnt (fun k => decide (k < 64) && ewB V x k) 0 128 = cnt (ewB V x) 0 64 := by
    rw [show (128 : Nat) = 64 + 64 from rfl, cnt_add, cnt_zero (k := 0 + 64) (fun k h1 h2 => by
      rw [decide_eq_false (show ¬ k < 64 by omega), Bool.false_and]), Nat.add_zero]
    exact cnt_cong (fun k _ hk => by rw [decide_eq_true (show k < 64 by omega), Bool.true_and])
  rw [e]
theorem Rel.manyAll {U : NodV} {V : MemV} {H : OneV} {W : WkV} {D : RowV} {n : Nat} (r : Rel none U V H W D n) : cnt (emB D (decide (¬ (1 : Int32) = 0))) 0 128 = c_X1_howMany V := by
  unfold c_X1_howMany
  rw [show (128 : Nat) = 64 + 64 from rfl, cnt_add, cnt_zero (k := 0 + 64) (fun k h1 h2 => by
    unfold emB thQ
    rw [r.B.th0 (by omega) (fun z => by omega)]
    simp), Nat.add_zero]
  refine cnt_cong (fun k _ hk => ?_)
  unfold emB thQ
  by_cases z : V 1 k = 0
  · rw [r.B.th0 (by omega) (fun _ => z)]
    simp [z]
  · rw [r.B.th1 (by omega) z]
    simp [z]
theorem isE_k {V : MemV} {k : Nat} (hk : k < 64) : q_X1_isEntry V (nI k) = if V 1 k = 0 then 0 else 1 := by
  unfold q_X1_isEntry
  rw [if_neg (n64 hk).1, if_neg (n64 hk).2.2, ix64 hk]
theorem ew_3 (V : MemV) : q_X1_absences V = nI (cnt (ewB V 3) 0 64) := by
  have e : c_X1_absences V = cnt (ewB V 3) 0 64 := by
    unfold c_X1_absences
    refine cnt_cong (fun k _ hk => ?_)
    unfold q_X1_isAbsence ewB
    rw [isE_k (by omega), ix64 (by omega)]
    by_cases z : V 1 k = 0
    · simp [z]
    · by_cases y : V 4 k = -1
      · simp [z, y]
      · simp [z, y]
  show nI (c_X1_absences V) = _
  rw [e]
theorem ew_4 (V : MemV) : q_X1_freeOnes V = nI (cnt (ewB V 4) 0 64) := by
  have e : c_X1_freeOnes V = cnt (ewB V 4) 0 64 := by
    unfold c_X1_freeOnes
    refine cnt_cong (fun k _ hk => ?_)
    unfold ewB
    by_cases z : V 1 k = 0
    · simp [z]
    · by_cases o : V 1 k = 1
      · by_cases y : V 5 k = 0
        · by_cases w : V 2 k = -1
          · simp [o, y, w]
          · simp [o, y, w]
        · simp [o, y]
      · simp [o, z]
  show nI (c_X1_freeOnes V) = _
  rw [e]
theorem ew_15 (V : MemV) : q_X1_goneOnes V = nI (cnt (ewB V 15) 0 64) := by
  have e : c_X1_goneOnes V = cnt (ewB V 15) 0 64 := by
    unfold c_X1_goneOnes
    refine cnt_cong (fun k _ hk => ?_)
    unfold q_X1_isGone ewB
    rw [isE_k (by omega), ix64 (by omega)]
    by_cases z : V 1 k = 0
    · simp [z]
    · by_cases y : V 1 k = 2
      · simp [y]
      · simp [z, y]
  show nI (c_X1_goneOnes V) = _
  rw [e]
theorem P_has {I : MI} {J : MJ} {T B0 : Nat} (h : St I J T B0) (h30 : T + 10001 ≤ 1000000000) (x : Int32) : Pair I J T B0 (M_X9_has [mR (some 0), mI x]) (M_X10_has [mR (some 188), mI x]) := by
  have rl := h.1.2
  obtain ⟨L, s7⟩ := h.2.2.2.2.2.2.2.1
  by_cases ou : x < 0 ∨ 15 < x
  · refine Pair.ask h h30 (u_has h.1.1 I x) (w := -1) ?_ ?_
    · rw [E_X10_has, w_isIn x 0 15 _ (show (0 : Int64) = Int32.toInt64 0 from rfl) (show (15 : Int64) = Int32.toInt64 15 from rfl)]
      have : (if x < 0 then (0 : Int32) else if 15 < x then 0 else 1) = 0 := by
        rcases ou with z | z
        · rw [if_pos z]
        · rw [if_pos z]; split <;> rfl
      simp only [Option.bind_some, asI_I, this, if_true]
    · have ne : ∀ j : Int32, ¬ j < 0 → ¬ 15 < j → ¬ x = j := fun j a b z => by
        subst z
        exact ou.elim a b
      unfold hasQ
      rw [if_neg (ne 0 (by decide) (by decide)), if_neg (ne 1 (by decide) (by decide)), if_neg (ne 2 (by decide) (by decide)), if_neg (ne 3 (by decide) (by decide)), if_neg (ne 4 (by decide) (by decide)), if_neg (ne 5 (by decide) (by decide)), if_neg (ne 6 (by decide) (by decide)), if_neg (ne 7 (by decide) (by decide)), if_neg (ne 8 (by decide) (by decide)), if_neg (ne 9 (by decide) (by decide)), if_neg (ne 10 (by decide) (by decide)), if_neg (ne 11 (by decide) (by decide)), if_neg (ne 12 (by decide) (by decide)), if_neg (ne 13 (by decide) (by decide)), if_neg (ne 14 (by decide) (by decide)), if_neg (ne 15 (by decide) (by decide))]
  · have a : ¬ x < 0 := fun z => ou (Or.inl z)
    have b : ¬ 15 < x := fun z => ou (Or.inr z)
    have xn : x = nI (ix x) := nI_ix a
    have x15 : ix x ≤ 15 := by
      rcases Nat.lt_or_ge 15 (ix x) with z | z
      · exact absurd (by rw [xn]; exact nI_lt (a := 15) z (ix_lt x)) b
      · exact z
    have isin : (if x < 0 then (0 : Int32) else if 15 < x then 0 else 1) = 1 := by rw [if_neg a, if_neg b]
    have cases16 : x = 0 ∨ x = 1 ∨ x = 2 ∨ x = 3 ∨ x = 4 ∨ x = 5 ∨ x = 6 ∨ x = 7 ∨ x = 8 ∨ x = 9 ∨ x = 10 ∨ x = 11 ∨ x = 12 ∨ x = 13 ∨ x = 14 ∨ x = 15 := by
      rw [xn]
      have : ∀ j, j ≤ 15 → nI j = 0 ∨ nI j = 1 ∨ nI j = 2 ∨ nI j = 3 ∨ nI j = 4 ∨ nI j = 5 ∨ nI j = 6 ∨ nI j = 7 ∨ nI j = 8 ∨ nI j = 9 ∨ nI j = 10 ∨ nI j = 11 ∨ nI j = 12 ∨ nI j = 13 ∨ nI j = 14 ∨ nI j = 15 := by decide
      exact this _ x15
    rcases h.2.2.2.2.2.2.2.2.2 with ⟨vol, ad, p, q, hv, td, ⟨nn, t, i, _, r⟩, hs⟩ | u
    · have s8 := h.2.2.2.2.2.2.2.2.1
      have em := w_entryMany rl I 1
      rw [r.manyAll] at em
      have hm : cnt (fun k => decide (¬ I 194 (11 + k) = -1)) 0 6 = c_X8_handlesOpen (vw 1 I 16) (vw 1 I 29) := cnt_cong (fun k _ hk => by
        rw [r.B.ha k (by omega)]
        by_cases z : vw 1 I 29 0 k = -1
        · simp [z]
        · simp [z])
      have wm : cnt (fun k => decide (¬ I 194 (17 + 96 * k + 0) = 0)) 0 4 = cnt (fun k => decide (¬ wz I 31 k = 0)) 0 4 := cnt_cong (fun k _ hk => by
        rw [(r.K k (by omega)).ws]
        rfl)
      have wmm := w_walkerMany rl I (fun k hk => by rw [(r.K k hk).ws]; exact bz_or _)
      rw [wm] at wmm
      have hmm := w_handleMany rl I
      rw [hm] at hmm
      have mo := w_mounted rl I (vw 12 I 17) r.B.rt
      have nm := w_nodeMany rl i.N r (-1)
      rw [if_pos rfl] at nm
      have i16 : I 1 6 = I 188 11 := (show vw 6 I 1 0 6 = nI vol from i.N.vs).trans hv.symm
      have ask : ∀ w, M_X10_has [mR (some 188), mI x] (I, J) = some (some (mI w), (I, J)) → hasQ I x = w → Pair I J T B0 (M_X9_has [mR (some 0), mI x]) (M_X10_has [mR (some 188), mI x]) := fun w e1 e2 => Pair.ask h h30 (u_has h.1.1 I x) e1 e2
      have askG : ∀ w G', M_X10_has [mR (some 188), mI x] (I, J) = some (some (mI w), (rF I (I 194) G' (I 188 22), J)) → hasQ I x = w → Pair I J T B0 (M_X9_has [mR (some 0), mI x]) (M_X10_has [mR (some 188), mI x]) := fun w G' e1 e2 => ⟨_, _, _, J, u_has h.1.1 I x, by rw [e2]; exact e1, h.rf h30 (fun _ _ => rfl)⟩
      have ew : ∀ y, ∃ G', M_X10_entriesWith [mR (some 188), mI y] (I, J) = some (some (mI (nI (cnt (ewB (vw 12 I 17) y) 0 64))), (rF I (I 194) G' (I 188 22), J)) := fun y => by
        have := r.entriesWith i rl I s8.1 (I 195) (I 188 22) y
        rw [rF_id] at this
        exact this
      have eh := E_X10_has 188 x (I, J)
      rw [w_isIn x 0 15 _ (show (0 : Int64) = Int32.toInt64 0 from rfl) (show (15 : Int64) = Int32.toInt64 15 from rfl)] at eh
      simp only [Option.bind_some, asI_I, isin, if_neg i10, rl.fz, if_neg td, rl.kt, if_true, rl.fi, rl.f18, rl.ldD _ (show (3 : Int32) = nI 3 from rfl) (show 3 < 1853 by decide), rl.ldD _ (show (0 : Int32) = nI 0 from rfl) (show 0 < 1853 by decide), rl.ldD _ (show (1 : Int32) = nI 1 from rfl) (show 1 < 1853 by decide), rl.ldD _ (show (2 : Int32) = nI 2 from rfl) (show 2 < 1853 by decide), hmm, wmm, mo, nm, em] at eh
      rcases cases16 with z | z | z | z | z | z | z | z | z | z | z | z | z | z | z | z
      · subst z; exact ask (I 188 11) (by rw [eh]; simp) (by simp [hasQ]; exact i16)
      · subst z; exact ask (q_X2_howMany (vw 6 I 1)) (by rw [eh]; simp) (by simp [hasQ])
      · subst z; exact ask (nI (c_X1_howMany (vw 12 I 17))) (by rw [eh]; simp) (by simp [hasQ]; rfl)
      · subst z
        obtain ⟨G', g⟩ := ew 3
        exact askG (nI (cnt (ewB (vw 12 I 17) 3) 0 64)) G' (by rw [eh]; simp [g, asI]) (by simp [hasQ]; exact ew_3 _)
      · subst z
        obtain ⟨G', g⟩ := ew 4
        exact askG (nI (cnt (ewB (vw 12 I 17) 4) 0 64)) G' (by rw [eh]; simp [g, asI]) (by simp [hasQ]; exact ew_4 _)
      · subst z; exact ask (I 194 3) (by rw [eh]; simp) (by simp [hasQ]; exact r.B.rm.symm)
      · subst z; exact ask (I 194 0) (by rw [eh]; simp) (by simp [hasQ]; exact r.B.tk.symm)
      · subst z; exact ask (I 194 1) (by rw [eh]; simp) (by simp [hasQ]; exact r.B.lo.symm)
      · subst z; exact ask (I 194 2) (by rw [eh]; simp) (by simp [hasQ]; exact r.B.tr.symm)
      · subst z; exact ask (nI (c_X8_handlesOpen (vw 1 I 16) (vw 1 I 29))) (by rw [eh]; simp) (by simp [hasQ]; rfl)
      · subst z; exact ask (q_X8_walkersUnderWay I 31) (by rw [eh]; simp [q_X8_walkersUnderWay]) (by simp [hasQ])
      · subst z; exact ask (q_X1_mountedBits (vw 12 I 17)) (by rw [eh]; simp) (by simp [hasQ])
      · subst z; exact ask (I 188 36) (by rw [eh]; simp) (by simp [hasQ]; exact s7.1.trans s7.2.2.1.symm)
      · subst z; exact ask (I 188 37) (by rw [eh]; simp) (by simp [hasQ]; exact s7.2.2.2.1)
      · subst z; exact ask (I 188 28) (by rw [eh]; simp) (by simp [hasQ]; exact hs.1.2.2.1.trans hs.2.1.1.symm)
      · subst z
        obtain ⟨G', g⟩ := ew 15
        exact askG (nI (cnt (ewB (vw 12 I 17) 15) 0 64)) G' (by rw [eh]; simp [g, asI]) (by simp [hasQ]; exact ew_15 _)
    · refine Pair.ask h h30 (u_has h.1.1 I x) (w := if x = 13 then -1 else 0) ?_ ?_
      · rw [E_X10_has, w_isIn x 0 15 _ (show (0 : Int64) = Int32.toInt64 0 from rfl) (show (15 : Int64) = Int32.toInt64 15 from rfl)]
        simp only [Option.bind_some, asI_I, isin, if_neg i10, rl.fz, u.2.1, if_true]
        split <;> rfl
      · obtain ⟨u1, u2, ⟨g1, g2, g3, g4, g5, g6, g7⟩, u4, ad, p, u5⟩ := u
        have zc : ∀ P : Nat → Bool, (∀ k, k < 64 → P k = false) → nI (cnt P 0 64) = 0 := fun P hP => by
          rw [cnt_zero (fun k _ hk => hP k (by omega))]; rfl
        have e5 : vw 6 I 1 0 5 = 0 := g1
        have v1 : ∀ k, k < 64 → vw 12 I 17 1 k = 0 := g3
        have hist := u5.1.2.2.1
        rcases cases16 with z | z | z | z | z | z | z | z | z | z | z | z | z | z | z | z
        · subst z; simp [hasQ]; exact g2
        · subst z
          simp [hasQ]
          unfold q_X2_howMany evN
          rw [e5]
          rfl
        · subst z; simp [hasQ]; exact zc _ (fun k hk => by rw [if_pos (v1 k hk)])
        · subst z; simp [hasQ]; rw [ew_3]; exact zc _ (fun k hk => by unfold ewB; rw [if_pos (v1 k hk)])
        · subst z; simp [hasQ]; rw [ew_4]; exact zc _ (fun k hk => by unfold ewB; rw [if_pos (v1 k hk)])
        · subst z; simp [hasQ]; exact g5.1
        · subst z; simp [hasQ]; exact g5.2.1
        · subst z; simp [hasQ]; exact g5.2.2.1
        · subst z; simp [hasQ]; exact g5.2.2.2
        · subst z
          simp [hasQ]
          show nI (cnt _ 0 6) = 0
          rw [cnt_zero (fun k _ hk => by rw [if_pos (show vw 1 I 29 0 k = -1 from g6 k (by omega))])]
          rfl
        · subst z
          simp [hasQ]
          show nI (cnt _ 0 4) = 0
          rw [cnt_zero (fun k _ hk => by
            have : wz I 31 k = 0 := g7 k (by omega)
            rw [this]; decide)]
          rfl
        · subst z
          simp [hasQ]
          have m0 : vw 12 I 17 9 0 = -1 := (g4 0 (by decide)).1
          have m1 : vw 12 I 17 9 1 = -1 := (g4 1 (by decide)).1
          have m2 : vw 12 I 17 9 2 = -1 := (g4 2 (by decide)).1
          show lp_X1_mountedBits_4 (vw 12 I 17) 3 0 0 = 0
          simp [lp_X1_mountedBits_4, m0, m1, m2]
        · subst z; simp [hasQ]; exact u4.1
        · subst z; simp [hasQ]; exact u4.2
        · subst z; simp [hasQ]; exact hist
        · subst z; simp [hasQ]; rw [ew_15]; exact zc _ (fun k hk => by unfold ewB; rw [if_pos (v1 k hk)])
end
section
/-! An act undone, on both sides. -/
theorem w_undo {J : MJ} (h : RefL J) (I : MI) {p q : Nat} (hp : I 188 29 = nI p) (p20 : p < 20) (hq : I 188 28 = nI (q + 1)) (q20 : q < 20) : M_X10_undo [mR (some 188)] (I, J) = some (some (mI 1), (up2 (up2 (rw1 I 194 (fun j => if j < 1853 then I 199 (1853 * p + j) else I 194 j)) 188 29 (nI ((p + 19) % 20))) 188 28 (nI q), J)) := by
  rw [E_X10_undo]
  simp only [h.fi, Option.bind_some, hq]
  rw [if_neg (nI_ne0 (by omega) (by omega))]
  have s1 := loop_all (fun k A => Ev T_X10_undo 15 [some (mR (some 188)), some (mI (nI k))] [] (rw1 I 194 A, J)) (fun k A => sD A (0 + k) (I 199 (1853 * p + k))) 1853 (I 194) (fun k A hk => by
    try dsimp only
    rw [E_X10_undo_15, if_neg (show ¬ (1853 : Int32) ≤ nI k from nI_ge hk (by decide))]
    have e : (1853 : Int32) * nI p + nI k = nI (1853 * p + k) := by
      rw [show (1853 : Int32) = nI 1853 from rfl, nI_mul, nI_add]
    have l : ld (rw1 I 194 A, J) 11 199 (nI (1853 * p + k)) = some (I 199 (1853 * p + k)) := by
      rw [ld_ok _ h.s27 (inb_nI (show 1853 * p + k < 37060 by omega) (by decide)), show (nI (1853 * p + k)).toNatClampNeg = 1853 * p + k from ix_nI (by omega), rw1_n _ _ (by decide)]
    simp only [h.f18, h.f27, h.fi, Option.bind_some, rw1_n I A (show (188 : Nat) ≠ 194 by decide), hp, e, l, h.stD _ _ rfl hk, rw1_st, nI_1, Nat.zero_add])
  try dsimp only at s1
  rw [rw1_id, show (nI 0) = 0 from rfl] at s1
  have ea : itr (fun k A => sD A (0 + k) (I 199 (1853 * p + k))) 0 1853 (I 194) = fun j => if j < 1853 then I 199 (1853 * p + j) else I 194 j := by
    funext j
    rw [itr_cp (fun k => I 199 (1853 * p + k)) 0]
    by_cases z : j < 1853
    · rw [if_pos (by omega), if_pos z, Nat.sub_zero]
    · rw [if_neg (by omega), if_neg z]
  rw [s1, ea, E_X10_undo_15, if_pos (show (1853 : Int32) ≤ nI 1853 by decide)]
  generalize (fun j => if j < 1853 then I 199 (1853 * p + j) else I 194 j) = A
  have r29 : rw1 I 194 A 188 29 = nI p := by rw [rw1_n _ _ (by decide)]; exact hp
  have r28 : ∀ v, up2 (rw1 I 194 A) 188 29 v 188 28 = nI (q + 1) := fun v => by rw [up2_k _ _ _ (by decide), rw1_n _ _ (by decide)]; exact hq
  simp only [h.fi, Option.bind_some, r29, h.wi, r28]
  rw [if_neg (show ¬ (20 : Int32) = 0 by decide), m20b p p20, nI_pred]
  simp
theorem P_undo {I : MI} {J : MJ} {T B0 : Nat} (h : St I J T B0) (h30 : T + 10001 ≤ 1000000000) : Pair I J T B0 (M_X9_undo [mR (some 0)]) (M_X10_undo [mR (some 188)]) := by
  have no : ∀ {ad p vol}, His I J ad p 0 vol T B0 → Pair I J T B0 (M_X9_undo [mR (some 0)]) (M_X10_undo [mR (some 188)]) := fun {ad p vol} hs => by
    refine Pair.no h h30 (k := 4) (by decide) (u_undo_no h.1.1 I hs.1.1 hs.1.2.2.1 hs.1.2.1) ?_
    have e : rfz I 4 188 28 = 0 := by rw [rfz_o _ _ (by decide)]; exact hs.2.1.1
    rw [E_X10_undo]
    simp only [h.1.2.fi, Option.bind_some, e, if_true, h.1.2.kt, w_isRefused h.1.2 _ (show (4 : Int32) = nI 4 from rfl) (by decide)]
    simp [asI]
  rcases h.2.2.2.2.2.2.2.2.2 with ⟨vol, ad, p, q, hv, td, w, hs⟩ | u
  · cases q with
    | zero => exact no hs
    | succ q =>
      obtain ⟨⟨hp, p20, hq, q20⟩, ⟨h28, h29⟩, hK, hR, hk⟩ := hs
      obtain ⟨a, a1, aw⟩ := hk 0 (by omega)
      have pb : bkp p = (p + 19) % 20 := by unfold bkp; split <;> omega
      have ar : jR J 68 (bkp p) = some (a + 6) ∧ KwL J a ∧ 208 ≤ a := by
        rw [pb]
        rcases hK.1 ((p + 19) % 20) (by omega) with ⟨z, _⟩ | ⟨b, b1, b2, b3, b4, _⟩
        · rw [show (p + 19 - 0) % 20 = (p + 19) % 20 by omega, z] at a1; cases a1
        · rw [show (p + 19 - 0) % 20 = (p + 19) % 20 by omega, b1] at a1; cases a1; exact ⟨b2, b3, b4⟩
      have uE := u_undo h.1.1 I hp hq p20 (by omega) ar.2.1 ar.1 (by have := ar.2.2; omega)
      have co : ∀ x, (7 ≤ x ∧ x < 17) ∨ 55 ≤ x ∨ x = 0 → h_X8_copyFrom I a (a + 7) (a + 19) (a + 21) 1 17 29 31 x = I x := fun x hx => copy_out _ _ _ _ _ _ _ _ _ (by omega) (by omega) (by omega) (by omega)
      have w2 := aw.copy (n := 1) (m := 17) (g := 29) (w := 31) (by decide) (by decide) (by decide) (by omega) (by omega) (by omega) (Or.inl (by have := ar.2.2; omega))
      generalize hC : h_X8_copyFrom I a (a + 7) (a + 19) (a + 21) 1 17 29 31 = C at uE co w2
      generalize hI1 : up2 (up2 C 67 1 (nI (bkp p))) 67 2 (nI q) = I1 at uE
      have i1 : ∀ x, x ≠ 67 → I1 x = C x := fun x hx => by rw [← hI1, up2_o _ _ _ hx, up2_o _ _ _ hx]
      have lo : ∀ x, 188 ≤ x → I1 x = I x := fun x hx => by rw [i1 x (by omega), co x (by omega)]
      have wE := w_undo (J := J) h.1.2 I1 (p := p) (q := q) (by rw [lo 188 (by decide)]; exact h29) p20 (by rw [lo 188 (by decide)]; exact h28) (by omega)
      generalize hI2 : up2 (up2 (rw1 I1 194 (fun j => if j < 1853 then I1 199 (1853 * p + j) else I1 194 j)) 188 29 (nI ((p + 19) % 20))) 188 28 (nI q) = I2 at wE
      have o2 : ∀ x, x ≠ 188 → x ≠ 194 → I2 x = I1 x := fun x a b => by rw [← hI2, up2_o _ _ _ a, up2_o _ _ _ a, rw1_n _ _ b]
      have f2 : ∀ k, k ≠ 28 → k ≠ 29 → I2 188 k = I 188 k := fun k a b => by rw [← hI2, up2_k _ _ _ a, up2_k _ _ _ b, rw1_n _ _ (by decide), lo 188 (by decide)]
      have d2 : ∀ k, k < 1853 → I2 194 k = I 199 (1853 * ((p + 20 - 0) % 20) + k) := fun k hk => by
        rw [← hI2, up2_o _ _ _ (by decide), up2_o _ _ _ (by decide), rw1_s]
        show (if k < 1853 then _ else _) = _
        rw [if_pos hk, lo 199 (by decide), show (p + 20 - 0) % 20 = p by omega]
      have all : ∀ x, (7 ≤ x ∧ x < 17) ∨ 55 ≤ x ∨ x = 0 → x ≠ 67 → x ≠ 188 → x ≠ 194 → I2 x = I x := fun x a b c d => by rw [o2 x c d, i1 x b, co x a]
      obtain ⟨L, s7⟩ := h.2.2.2.2.2.2.2.1
      refine ⟨1, _, I2, J, uE, wE, h.1, h.2.1.fr (all _ (by omega) (by decide) (by decide) (by decide)) (all _ (by omega) (by decide) (by decide) (by decide)) (f2 _ (by decide) (by decide)) (all _ (by omega) (by decide) (by decide) (by decide)), h.2.2.1.fr (all _ (by omega) (by decide) (by decide) (by decide)) (f2 _ (by decide) (by decide)) (f2 _ (by decide) (by decide)), h.2.2.2.1.fr (all _ (by omega) (by decide) (by decide) (by decide)) (all _ (by omega) (by decide) (by decide) (by decide)), h.2.2.2.2.1.fr (by rw [all 0 (by omega) (by decide) (by decide) (by decide)]) (all _ (by omega) (by decide) (by decide) (by decide)) (f2 _ (by decide) (by decide)) (all _ (by omega) (by decide) (by decide) (by decide)), h.2.2.2.2.2.1.fr (by rw [all 0 (by omega) (by decide) (by decide) (by decide)]) (all _ (by omega) (by decide) (by decide) (by decide)) (f2 _ (by decide) (by decide)) (all _ (by omega) (by decide) (by decide) (by decide)), h.2.2.2.2.2.2.1, ⟨L, s7.fr (by rw [all 69 (by omega) (by decide) (by decide) (by decide)]) (by rw [all 69 (by omega) (by decide) (by decide) (by decide)]) (fun x _ _ => all x (by omega) (by omega) (by omega) (by omega)) (f2 _ (by decide) (by decide)) (f2 _ (by decide) (by decide)) (all _ (by omega) (by decide) (by decide) (by decide)) (all _ (by omega) (by decide) (by decide) (by decide))⟩, h.2.2.2.2.2.2.2.2.1.fr (f2 _ (by decide) (by decide)) (f2 _ (by decide) (by decide)), Or.inl ⟨vol, ad, (p + 19) % 20, q, by rw [f2 11 (by decide) (by decide)]; exact hv, by rw [f2 13 (by decide) (by decide)]; exact td, ?_, ⟨?_, ?_, ?_, ?_⟩, ⟨?_, ?_⟩, hK, hR, fun j hj => ?_⟩⟩
      · exact (w2.fr (fun x _ _ => by rw [o2 x (by omega) (by omega), i1 x (by omega)]) (fun x _ _ => by rw [o2 x (by omega) (by omega), i1 x (by omega)]) (by rw [o2 29 (by decide) (by decide), i1 29 (by decide)]) (fun x _ _ => by rw [o2 x (by omega) (by omega), i1 x (by omega)]) d2).T (by omega) h30
      · rw [o2 67 (by decide) (by decide), ← hI1, up2_k _ _ _ (by decide), up2_s, pb]
      · omega
      · rw [o2 67 (by decide) (by decide), ← hI1, up2_s]
      · omega
      · rw [← hI2, up2_s]
      · rw [← hI2, up2_k _ _ _ (by decide), up2_s]
      · obtain ⟨b, b1, b2⟩ := hk (j + 1) (by omega)
        have bg : 208 ≤ b := by
          rcases hK.1 ((p + 19 - (j + 1)) % 20) (by omega) with ⟨z, _⟩ | ⟨b', b1', _, _, b4, _⟩
          · rw [z] at b1; cases b1
          · rw [b1'] at b1; cases b1; exact b4
        have up : ∀ x, 208 ≤ x → I2 x = I x := fun x hx => all x (by omega) (by omega) (by omega) (by omega)
        refine ⟨b, by rw [show ((p + 19) % 20 + 19 - j) % 20 = (p + 19 - (j + 1)) % 20 by omega]; exact b1, (b2.fr (fun x _ _ => up x (by omega)) (fun x _ _ => up x (by omega)) (up _ (by omega)) (fun x _ _ => up x (by omega)) (fun k _ => ?_)).T (by omega) h30⟩
        show I2 199 _ = I 199 _
        rw [all 199 (by omega) (by decide) (by decide) (by decide), show ((p + 19) % 20 + 20 - j) % 20 = (p + 20 - (j + 1)) % 20 by omega]
  · exact no u.2.2.2.2.choose_spec.choose_spec
end
section
/-! A place for something new, on both sides. -/
theorem last_q {L l : Nat} {P : RouV} (hp : P 0 1 = nI l) (hL : l ≤ L) (hb : L < 1000) : q_X4_last L P = if l = 0 then 0 else P 1 (l - 1) := by
  unfold q_X4_last
  rw [hp]
  by_cases z : l = 0
  · rw [if_pos z, z]
    rfl
  · rw [if_neg z, show nI l - 1 = nI (l - 1) from nI_sub (b := 1) (by omega), stepAt_k hp (by omega) hL hb]
theorem isF_neg {U : NodV} {V : MemV} {x : Int32} (h : x < 0) : q_X1_isFolder U V x = 0 := by
  unfold q_X1_isFolder q_X1_isEntry
  rw [if_pos h, if_pos rfl]
/-- how a place is found -/
def Plo (U : NodV) (V1 : MemV) (P : RouV) (S : RowV) (l L : Nat) (Q y c' : Int32) : Prop := (y = 1 ∧ 0 < l ∧ ∃ a', c' = nI a' ∧ Q = nI a' ∧ At V1 a' ∧ ¬ q_X2_isFolder U (V1 4 a') = 0 ∧ ¬ q_X1_isFolder U V1 Q = 0 ∧ Nm (P 1 (l - 1)) (S (l - 1)) ∧ q_X4_last L P = P 1 (l - 1)) ∨ (y = 0 ∧ (q_X1_isFolder U V1 Q = 0 ∨ ¬ 0 < q_X4_last L P))
theorem Rel.isPlace {U : NodV} {V : MemV} {H : OneV} {W : WkV} {D : RowV} {n vol t T : Nat} {x : Nat → Nat} (r : Rel none U V H W D n) (i : Inv U V H W n vol t T x) (C : CntI V) (hx : ∀ e, e < 64 → ¬ x e = 0 → ¬ V 4 e = -1) {J : MJ} (h : RefL J) (I : MI) (hb : HB (I 188 20) x) (hw : I 188 21 = -1) (G : RowV) (c : Int32) {s1 : Nat} (hs1 : jS J s1 = (11, 64)) (hs : s1 ≠ 188 ∧ s1 ≠ 194 ∧ s1 ≠ 195) {L l : Nat} {P : RouV} (pth : Pth P (I s1) l) (hL : l ≤ L) (hLb : L < 1000) (l64 : l ≤ 64) (tT : t + 2 * l + 1 ≤ T) : ∃ D' G' c' y t', M_X10_isPlace [mR (some 188), mR (some s1), mI (nI l)] (rF I D G c, J) = some (some (mI y), (rF I D' G' c', J)) ∧ Stq none U V (gV_X1_walk L P U V (P 0 1 - 1)) H W D' n vol t' T 0 x ∧ t ≤ t' ∧ t' ≤ t + 2 * l + 1 ∧ Plo U (gV_X1_walk L P U V (P 0 1 - 1)) P (I s1) l L (q_X1_walk L P U V (P 0 1 - 1)) y c' := by
  have m1 : ix (P 0 1 - 1) = l - 1 := by
    rw [pth.1]
    by_cases z : l = 0
    · subst z; rfl
    · rw [show nI l - 1 = nI (l - 1) from nI_sub (b := 1) (by omega), ix_nI (by omega)]
  obtain ⟨D', G', c', how, t', w1, w2, w3, w4, w5⟩ := r.walks i C hx h I hb hw G c hs1 hs (P := P) (lp := l) (m := l - 1) (L := L) pth.1 (by omega) hL hLb (by omega) (fun k hk => pth.2 k (by omega)) (P 0 1 - 1) m1 (by omega)
  generalize gV_X1_walk L P U V (P 0 1 - 1) = V1 at w2 w5
  generalize q_X1_walk L P U V (P 0 1 - 1) = Q at w5
  have lq := last_q pth.1 hL hLb
  have bad : ∀ hw : Int32, (hw = -2 ∨ hw = -3) → how = hw → Q = hw → ∃ D' G' c' y t', M_X10_isPlace [mR (some 188), mR (some s1), mI (nI l)] (rF I D G c, J) = some (some (mI y), (rF I D' G' c', J)) ∧ Stq none U V V1 H W D' n vol t' T 0 x ∧ t ≤ t' ∧ t' ≤ t + 2 * l + 1 ∧ Plo U V1 P (I s1) l L Q y c' := by
    intro hw hh e1 e2
    have q0 : Q < 0 := by rw [e2]; rcases hh with z | z <;> rw [z] <;> decide
    have h0 : ¬ how = 0 := by rw [e1]; rcases hh with z | z <;> rw [z] <;> decide
    refine ⟨D', G', c', 0, t', ?_, w2, w3, by omega, Or.inr ⟨rfl, Or.inl (isF_neg q0)⟩⟩
    rw [E_X10_isPlace]
    by_cases z : l = 0
    · subst z
      rw [if_pos (show nI 0 ≤ 0 by decide)]
      rw [show 0 - 1 = 0 from rfl] at w1
      simp only [h.kt, if_true, show M_X10_walks [mR (some 188), mR (some s1), mI 0] (rF I D G c, J) = _ from w1, Option.bind_some, asI_I, if_neg h0]
      simp
    · rw [if_neg (nI_nle (by omega) (by omega)), show nI l - 1 = nI (l - 1) from nI_sub (b := 1) (by omega)]
      simp only [h.kt, if_true, w1, Option.bind_some, asI_I, if_neg h0]
      simp
  rcases w5 with ⟨a1, a', a2, a3, a4⟩ | ⟨a1, a2⟩ | ⟨a1, a2⟩
  · subst a1 a2 a3
    rw [E_X10_isPlace]
    by_cases z : l = 0
    · subst z
      rw [if_pos (show nI 0 ≤ 0 by decide)]
      rw [show 0 - 1 = 0 from rfl] at w1
      refine ⟨D', G', nI a', 0, t', ?_, w2, w3, by omega, Or.inr ⟨rfl, Or.inr (by rw [lq, if_pos rfl]; decide)⟩⟩
      simp only [h.kt, if_true, show M_X10_walks [mR (some 188), mR (some s1), mI 0] (rF I D G c, J) = _ from w1, Option.bind_some, asI_I]
      rw [if_pos (show nI 0 ≤ 0 by decide)]
      simp
    · have ls : ld (rF I D' G' (nI a'), J) 11 s1 (nI (l - 1)) = some (I s1 (l - 1)) := by
        rw [ld_ok _ hs1 (inb_nI (by omega) (by decide)), rF_o _ _ _ _ hs.1 hs.2.1 hs.2.2, show (nI (l - 1)).toNatClampNeg = l - 1 from ix_nI (by omega)]
      rw [if_neg (nI_nle (by omega) (by omega)), show nI l - 1 = nI (l - 1) from nI_sub (b := 1) (by omega)]
      simp only [h.kt, if_true, w1, Option.bind_some, asI_I, if_neg (nI_nle (show 0 < l by omega) (by omega)), h.fi, rF_c, w2.1.isFolder i.N w2.2.1.M h I G' (nI a') a4, ls]
      have a0 : ¬ V1 1 a' = 0 := by rw [a4.2.1]; exact i10
      by_cases fo : q_X1_isFolder U V1 (nI a') = 0
      · refine ⟨D', G', nI a', 0, t', ?_, w2, w3, by omega, Or.inr ⟨rfl, Or.inl fo⟩⟩
        rw [if_pos fo]
        simp
      · rw [if_neg fo]
        have sp := pth.2 (l - 1) (by omega)
        by_cases y0 : I s1 (l - 1) ≤ 0
        · refine ⟨D', G', nI a', 0, t', ?_, w2, w3, by omega, Or.inr ⟨rfl, Or.inr ?_⟩⟩
          · rw [if_pos y0]
            simp
          · rw [lq, if_neg z]
            exact fun w => (i32_gt_ne (sp.pos.1.mp w)).2.2.2 y0
        · refine ⟨D', G', nI a', 1, t', ?_, w2, w3, by omega, Or.inl ⟨rfl, by omega, a', rfl, rfl, a4, ?_, fo, sp.nm (sp.pos.1.mpr (Int32.not_le.mp y0)), by rw [lq, if_neg z]⟩⟩
          · rw [if_neg y0]
            simp
          · intro w
            rw [isF_q a4.1 a0, if_pos w] at fo
            exact fo rfl
  · exact bad (-2) (Or.inl rfl) a1 a2
  · exact bad (-3) (Or.inr rfl) a1 a2
theorem put_eq {U : NodV} {n vol : Nat} (hN : NodI U n vol) (n59 : n < 60) (a b c d : Int32) : q_X2_put U a b c d = nI n ∧ gU_X2_put U a b c d = uv (uv (uv (uv (uv U 0 5 (nI (n + 1))) 1 n a) 2 n b) 3 n c) 4 n d := by
  unfold q_X2_put gU_X2_put
  rw [hN.ev, if_neg (nI_pos (by omega)), if_pos (show nI n < 60 from nI_lt (b := 60) n59 (by decide)), ix_nI (by omega), nI_1, if_neg (nI_pos (by omega)), if_pos (show nI n < 60 from nI_lt (b := 60) n59 (by decide))]
  exact ⟨rfl, rfl⟩
/-- a node more -/
def addU (U : NodV) (n : Nat) (a b c d : Int32) : NodV := uv (uv (uv (uv (uv U 0 5 (nI (n + 1))) 1 n a) 2 n b) 3 n c) 4 n d
theorem addU_r (U : NodV) (n : Nat) (a b c d : Int32) : (∀ k, addU U n a b c d 1 k = if k = n then a else U 1 k) ∧ (∀ k, addU U n a b c d 2 k = if k = n then b else U 2 k) ∧ (∀ k, addU U n a b c d 3 k = if k = n then c else U 3 k) ∧ (∀ k, addU U n a b c d 4 k = if k = n then d else U 4 k) ∧ addU U n a b c d 5 = U 5 ∧ addU U n a b c d 0 5 = nI (n + 1) ∧ addU U n a b c d 0 6 = U 0 6 := by
  unfold addU
  refine ⟨fun k => ?_, fun k => ?_, fun k => ?_, fun k => ?_, ?_, ?_, ?_⟩
  · simp [uv]
  · simp [uv]
  · simp [uv]
  · simp [uv]
  · funext k; simp [uv]
  · simp [uv]
  · simp [uv]
theorem Inv.fill {U : NodV} {V : MemV} {H : OneV} {W : WkV} {n vol t T : Nat} {x : Nat → Nat} (i : Inv U V H W n vol t T x) (h30 : T + 1 ≤ 1000000000) (n59 : n < 60) {e p kp : Nat} (e64 : e < 64) (e1 : V 1 e = 1) (e2 : V 2 e = nI p) (e4 : V 4 e = -1) (p64 : p < 64) (p1 : V 1 p = 1) (pk : V 4 p = nI kp) (kn : kp < n) (k2 : U 4 kp = 2) (h3 : ¬ V 3 e = 0) (hf : q_X2_find U (nI kp) (V 3 e) = -1) {kind : Int32} (hkd : kind = 1 ∨ kind = 2) (x4 : x e = 0) {V' : MemV} (a4 : ∀ j, V' 4 j = if j = e then nI n else V 4 j) (a6 : ∀ j, V' 6 j = if j = e then V 6 e + 1 else V 6 j) (kk : ∀ q : Fin 12, q ≠ 4 → q ≠ 6 → V' q = V q) : Inv (addU U n (U 1 kp) (nI kp) (V 3 e) kind) V' H W (n + 1) vol t (T + 1) x := by
  obtain ⟨u1, u2, u3, u4, u5, u05, u06⟩ := addU_r U n (U 1 kp) (nI kp) (V 3 e) kind
  generalize addU U n (U 1 kp) (nI kp) (V 3 e) kind = U' at u1 u2 u3 u4 u5 u05 u06
  have hN := i.N
  have hM := i.M
  have n60 := hN.n60
  have kd0 : ¬ kind = 0 := by rcases hkd with z | z <;> rw [z] <;> decide
  have nof : ∀ k, k < n → ¬ U 4 k = 0 → U 2 k = nI kp → ¬ U 3 k = V 3 e := by
    rcases hN.fd (nI kp) (V 3 e) with ⟨_, z⟩ | ⟨k, k1, k2, _⟩
    · exact z
    · rw [hf] at k2
      exact absurd k2.symm (nI_m1 (by omega))
  have hN' : NodI U' (n + 1) vol := by
    refine ⟨u05, by omega, by rw [u06]; exact hN.vs, hN.v3, fun k hk => ?_, fun k hk => ?_, fun k hk q => ?_, fun v hv => ?_, fun k hk q1 q2 => ?_, fun k j hk hj q1 q2 q3 q4 q5 => ?_, ?_, by rw [u5]; exact hN.r00, fun k hk q => ?_⟩
    · rw [u1]
      by_cases z : k = n
      · rw [if_pos z]; exact hN.vol kp kn
      · rw [if_neg z]; exact hN.vol k (by omega)
    · rw [u4]
      by_cases z : k = n
      · rw [if_pos z]; exact Or.inr hkd
      · rw [if_neg z]; exact hN.kd k (by omega)
    · rw [u2] at q
      by_cases z : k = n
      · rw [if_pos z] at q; exact absurd q (nI_m1 (by omega))
      · rw [if_neg z] at q
        rw [u1, if_neg z, u5]
        exact hN.rt k (by omega) q
    · obtain ⟨r, r1, r2, r3, r4, r5⟩ := hN.rts v hv
      refine ⟨r, by omega, by rw [u5]; exact r2, by rw [u4, if_neg (by omega)]; exact r3, by rw [u2, if_neg (by omega)]; exact r4, by rw [u1, if_neg (by omega)]; exact r5⟩
    · rw [u4] at q1
      rw [u2] at q2
      by_cases z : k = n
      · refine ⟨kp, by omega, by rw [u2, if_pos z], by rw [u4, if_neg (by omega)]; exact k2, by rw [u1, u1, if_pos z, if_neg (by omega)]⟩
      · rw [if_neg z] at q1 q2
        obtain ⟨a, b1, b2, b3, b4⟩ := hN.par k (by omega) q1 q2
        refine ⟨a, by omega, by rw [u2, if_neg z]; exact b2, by rw [u4, if_neg (by omega)]; exact b3, by rw [u1, u1, if_neg z, if_neg (by omega)]; exact b4⟩
    · rw [u4] at q1 q2
      rw [u2] at q3
      rw [u2, u2] at q4
      rw [u3, u3] at q5
      by_cases z : k = n
      · by_cases z' : j = n
        · omega
        · rw [if_pos z, if_neg z'] at q4 q5
          rw [if_neg z'] at q2
          exact absurd q5.symm (nof j (by omega) q2 q4.symm)
      · by_cases z' : j = n
        · rw [if_neg z, if_pos z'] at q4 q5
          rw [if_neg z] at q1
          exact absurd q5 (nof k (by omega) q1 q4)
        · rw [if_neg z] at q1 q3
          rw [if_neg z'] at q2
          rw [if_neg z, if_neg z'] at q4 q5
          exact hN.uq k j (by omega) (by omega) q1 q2 q3 q4 q5
    · obtain ⟨d, hd⟩ := hN.rk
      refine ⟨fun k => if k = n then d kp + 1 else d k, fun k a h1 h2 q1 q2 => ?_⟩
      rw [u4] at q1
      rw [u2] at q2
      show (if a = n then d kp + 1 else d a) < if k = n then d kp + 1 else d k
      by_cases z : k = n
      · rw [if_pos z] at q2
        have : a = kp := ((nI_eq (by omega) (by omega)).mp q2).symm
        rw [if_pos z, if_neg (by omega), this]
        omega
      · rw [if_neg z] at q1 q2
        by_cases w : a = n
        · obtain ⟨b, b1, b2, _⟩ := hN.par k (by omega) q1 (by rw [q2]; exact nI_m1 (by omega))
          have : a = b := (nI_eq (by omega) (by omega)).mp (q2.symm.trans b2)
          omega
        · rw [if_neg z, if_neg w]
          exact hd k a (by omega) (by omega) q1 q2
    · rw [u2] at q
      rw [u3]
      by_cases z : k = n
      · rw [if_pos z]; exact h3
      · rw [if_neg z] at q ⊢
        exact hN.nn k (by omega) q
  have fo' : ∀ k, k < n → q_X2_isFolder U' (nI k) = q_X2_isFolder U (nI k) := fun k hk => by
    rw [fo_nI hN' (by omega), fo_nI hN hk, u4, if_neg (show ¬ k = n by omega)]
  have foM : ∀ y, ¬ q_X2_isFolder U y = 0 → ¬ q_X2_isFolder U' y = 0 := fun y hy => by
    obtain ⟨k, b1, b2, _⟩ := hN.fo hy
    rw [b2] at hy ⊢
    rw [fo' k b1]
    exact hy
  have fd' : ∀ a b, ¬ (a = nI kp ∧ b = V 3 e) → q_X2_find U' a b = q_X2_find U a b := fun a b hne => by
    unfold q_X2_find
    rw [hN'.evn, hN.evn, fst_ext (n := n) (m := 1) (fun k h1 h2 => by
      have : k = n := by omega
      rw [this, u4, u2, u3, if_pos rfl, if_pos rfl, if_pos rfl]
      simp only [decide_eq_false_iff_not]
      exact fun z => hne ⟨z.2.1.symm, z.2.2.symm⟩)]
    congr 1
    exact fst_cong (fun k _ hk => by rw [u4, u2, u3, if_neg (by omega), if_neg (by omega), if_neg (by omega)])
  have fdN : q_X2_find U' (nI kp) (V 3 e) = nI n := by
    unfold q_X2_find
    rw [hN'.evn, fst_is (j := n) (Nat.zero_le _) (by omega) (by
      rw [u4, u2, u3, if_pos rfl, if_pos rfl, if_pos rfl]
      simp [kd0]) (fun k _ hk => by
      rw [u4, u2, u3, if_neg (by omega), if_neg (by omega), if_neg (by omega)]
      simp only [decide_eq_false_iff_not]
      exact fun z => nof k hk z.1 z.2.1 z.2.2)]
    rfl
  have pe : p ≠ e := fun z => by rw [z, e4] at pk; exact nI_m1 (show kp < 2 ^ 31 by omega) pk.symm
  have ne4 : ∀ f, ¬ V 4 f = -1 → f ≠ e := fun f q z => q (by rw [z]; exact e4)
  have nfo : ∀ f, ¬ q_X2_isFolder U (V 4 f) = 0 → f ≠ e := fun f q => ne4 f (fun z => by
    obtain ⟨k, b1, b2, _⟩ := hN.fo q
    rw [z] at b2
    exact nI_m1 (show k < 2 ^ 31 by omega) b2.symm)
  have nodn : ∀ f, f < 64 → ¬ V 1 f = 0 → ¬ V 4 f = nI n := fun f hf q z => by
    rcases hM.st f hf with s | s | s
    · exact q s
    · obtain ⟨k, b1, b2, _⟩ := hM.nk hN ⟨hf, s, by rw [z]; exact nI_m1 (by omega)⟩
      have : k = n := (nI_eq (by omega) (by omega)).mp (b2.symm.trans z)
      omega
    · obtain ⟨_, k, b1, b2, _⟩ := hM.go f hf s
      have : k = n := (nI_eq (by omega) (by omega)).mp (b2.symm.trans z)
      omega
  have c1 := kk 1 (by decide) (by decide)
  have c2 := kk 2 (by decide) (by decide)
  have c3 := kk 3 (by decide) (by decide)
  have c8 := kk 8 (by decide) (by decide)
  have c9 := kk 9 (by decide) (by decide)
  have c10 := kk 10 (by decide) (by decide)
  have c0 := kk 0 (by decide) (by decide)
  refine ⟨hN', ⟨?_, ?_, ?_, ?_, ?_, ?_, ?_, ?_, ?_, ?_, ?_, ?_⟩, ⟨?_, by have := i.Z.tT; omega, h30, ?_, ?_, ?_⟩, ?_, ?_, ?_⟩
  · rw [c1]; exact hM.st
  · rw [c9]; exact hM.r0
  · rw [c10]; exact hM.o0
  · intro v hv
    rw [c9, c10, c1, c2, u5]
    rcases hM.rt v hv with q | ⟨q1, r, r64, q2, q3, q4, q5⟩
    · exact Or.inl q
    · refine Or.inr ⟨q1, r, r64, q2, q3, q4, ?_⟩
      rw [a4, if_neg]
      · exact q5
      · intro z
        rw [z, e2] at q4
        exact nI_m1 (show p < 2 ^ 31 by omega) q4
  · intro v h1 hv
    rw [c9, c10, c1, c2]
    intro q
    obtain ⟨o, o64, w1, w2, w3, w4⟩ := hM.ov v h1 hv q
    refine ⟨o, o64, w1, w2, w3, ?_⟩
    rw [a4, if_neg (nfo o w4)]
    exact foM _ w4
  · rw [c10]; exact hM.oi
  · obtain ⟨ρ, hρ⟩ := hM.vr
    refine ⟨ρ, fun v o k u h1 h2 h3 h4 h5 h6 h7 h8 => ?_⟩
    rw [c10] at h4
    have of := (hM.ok h2 h3 h4).2.2.2.2
    rw [a4, if_neg (nfo o of)] at h5
    obtain ⟨k', b1, b2, _⟩ := hN.fo of
    have : k = k' := (nI_eq (by omega) (by omega)).mp (h5.symm.trans b2)
    rw [u1, if_neg (by omega)] at h7
    exact hρ v o k u h1 h2 h3 h4 h5 (by omega) h7 h8
  · rw [c1, c2, c9]; exact hM.ro
  · intro f hf q1 q2
    rw [c1] at q1
    rw [c2] at q2
    rw [c2, c1, c3]
    obtain ⟨p', y1, y2, y3, y4, y5⟩ := hM.ch f hf q1 q2
    refine ⟨p', y1, y2, y3, ?_, ?_⟩
    · rw [a4, if_neg (nfo p' y4)]; exact foM _ y4
    · rw [a4, a4, if_neg (nfo p' y4)]
      by_cases z : f = e
      · subst z
        have : p' = p := (nI_eq (by omega) (by omega)).mp (y2.symm.trans e2)
        rw [if_pos rfl, this, pk, fdN]
      · rw [if_neg z, fd', y5]
        rintro ⟨w1, w2⟩
        have pp : p' = p := hM.nd p' p y1 p64 (by rw [y3]; exact i10) (by rw [p1]; exact i10) (by rw [w1]; exact nI_m1 (by omega)) (by rw [w1, pk])
        exact z (hM.sb f e hf e64 q1 e1 q2 (by rw [y2, pp, e2]) w2)
  · intro f hf q1
    rw [c1] at q1
    rw [c2, a4, if_neg]
    · obtain ⟨b1, k, b2, b3, b4⟩ := hM.go f hf q1
      exact ⟨b1, k, by omega, b3, by rw [u4, if_neg (by omega)]; exact b4⟩
    · intro z
      rw [z, e1] at q1
      exact absurd q1 (by decide)
  · rw [c1, c2, c3]; exact hM.sb
  · intro f g hf hg q1 q2 q3 q4
    rw [c1] at q1 q2
    rw [a4] at q3
    rw [a4, a4] at q4
    by_cases z : f = e
    · by_cases z' : g = e
      · rw [z, z']
      · rw [if_pos z, if_neg z'] at q4
        exact absurd q4.symm (nodn g hg q2)
    · by_cases z' : g = e
      · rw [if_neg z, if_pos z'] at q4
        exact absurd q4 (nodn f hf q1)
      · rw [if_neg z] at q3
        rw [if_neg z, if_neg z'] at q4
        exact hM.nd f g hf hg q1 q2 q3 q4
  · rw [c0]; exact i.Z.tk
  · rw [c1, c8]; exact i.Z.bi
  · intro f hf q
    rw [c1] at q
    rw [a6]
    by_cases z : f = e
    · obtain ⟨c, d1, d2⟩ := i.Z.co f hf q
      rw [if_pos z, ← z, d1, nI_1]
      exact ⟨c + 1, rfl, by omega⟩
    · rw [if_neg z]
      obtain ⟨c, d1, d2⟩ := i.Z.co f hf q
      exact ⟨c, d1, by omega⟩
  · exact ⟨by rw [c0]; exact i.Z.li, i.Z.tri.le (by rw [c0]) (fun k _ q => by rw [c1] at q; exact q) (Nat.le_refl _)⟩
  · intro f hf
    rw [c1, kk 5 (by decide) (by decide), hc_fr c1 c2 c10]
    exact i.L f hf
  · intro k hk'
    rcases i.H k hk' with z | ⟨f, f1, f2, f3, f4⟩
    · exact Or.inl z
    · exact Or.inr ⟨f, f1, f2, by rw [c1]; exact f3, by rw [a4, if_neg (ne4 f f4)]; exact f4⟩
  · intro k hk' q
    obtain ⟨m, d, l, r, hr, hw⟩ := i.W k hk' q
    refine ⟨m, d, l, r, hr, hw.m, hw.d, hw.l, hw.r, hw.m1, hw.md, hw.dl, hw.l12, hw.r3, fun j hj => ?_⟩
    obtain ⟨f, f64, g1, ⟨b1, d1, g2, g3, g4, g5, g6⟩, g7⟩ := (hw.wy j hj).ex
    refine ⟨f, f64, g1, ⟨b1, d1, g2, g3, g4, by omega, ?_⟩, ?_⟩
    · intro q1 q2
      rw [c1] at q1
      rw [c8] at q2
      obtain ⟨cc, y1, y2, y3, y4⟩ := g6 q1 q2
      rw [a6, c1, a4]
      by_cases z : f = e
      · subst z
        rw [if_pos rfl, y1, nI_1]
        exact ⟨cc + 1, rfl, by omega, by omega, fun w => by omega⟩
      · rw [if_neg z, if_neg z]
        exact ⟨cc, y1, y2, by omega, y4⟩
    · intro q1
      have y := g7 q1
      rw [c1, a4, if_neg (ne4 f y.2)]
      exact y
end
section
/-! Something made, on both sides. -/
def fiD (D : RowV) (n e : Nat) (a0 a1 a2 a3 : Int32) : RowV := sD (sD (sD (sD (sD (sD (sD (sD D 4 (nI (n + 1))) (401 + 5 * n + 0) a0) (401 + 5 * n + 1) a1) (401 + 5 * n + 2) a2) (401 + 5 * n + 3) a3) (401 + 5 * n + 4) 1) (701 + 9 * e + 3) (nI n)) (701 + 9 * e + 4) (D (701 + 9 * e + 4) + 1)
theorem fiD_o (D : RowV) {n e : Nat} (a0 a1 a2 a3 : Int32) {j : Nat} (h4 : j ≠ 4) (hn : j < 401 + 5 * n ∨ 401 + 5 * n + 5 ≤ j) (h3 : j ≠ 701 + 9 * e + 3) (h44 : j ≠ 701 + 9 * e + 4) : fiD D n e a0 a1 a2 a3 j = D j := by
  unfold fiD
  rw [sD_n _ _ h44, sD_n _ _ h3, sD_n _ _ (by omega), sD_n _ _ (by omega), sD_n _ _ (by omega), sD_n _ _ (by omega), sD_n _ _ (by omega), sD_n _ _ h4]
theorem fiD_at (D : RowV) {n e : Nat} (n60 : n < 60) (a0 a1 a2 a3 : Int32) : fiD D n e a0 a1 a2 a3 4 = nI (n + 1) ∧ fiD D n e a0 a1 a2 a3 (401 + 5 * n + 0) = a0 ∧ fiD D n e a0 a1 a2 a3 (401 + 5 * n + 1) = a1 ∧ fiD D n e a0 a1 a2 a3 (401 + 5 * n + 2) = a2 ∧ fiD D n e a0 a1 a2 a3 (401 + 5 * n + 3) = a3 ∧ fiD D n e a0 a1 a2 a3 (401 + 5 * n + 4) = 1 ∧ fiD D n e a0 a1 a2 a3 (701 + 9 * e + 3) = nI n ∧ fiD D n e a0 a1 a2 a3 (701 + 9 * e + 4) = D (701 + 9 * e + 4) + 1 := by
  unfold fiD
  refine ⟨?_, ?_, ?_, ?_, ?_, ?_, ?_, sD_s _ _ _⟩
  · rw [sD_n _ _ (by omega), sD_n _ _ (by omega), sD_n _ _ (by omega), sD_n _ _ (by omega), sD_n _ _ (by omega), sD_n _ _ (by omega), sD_n _ _ (by omega), sD_s]
  · rw [sD_n _ _ (by omega), sD_n _ _ (by omega), sD_n _ _ (by omega), sD_n _ _ (by omega), sD_n _ _ (by omega), sD_n _ _ (by omega), sD_s]
  · rw [sD_n _ _ (by omega), sD_n _ _ (by omega), sD_n _ _ (by omega), sD_n _ _ (by omega), sD_n _ _ (by omega), sD_s]
  · rw [sD_n _ _ (by omega), sD_n _ _ (by omega), sD_n _ _ (by omega), sD_n _ _ (by omega), sD_s]
  · rw [sD_n _ _ (by omega), sD_n _ _ (by omega), sD_n _ _ (by omega), sD_s]
  · rw [sD_n _ _ (by omega), sD_n _ _ (by omega), sD_s]
  · rw [sD_n _ _ (by omega), sD_s]
theorem Rel.fill {U : NodV} {V V' : MemV} {H : OneV} {W : WkV} {D : RowV} {n vol : Nat} (r : Rel none U V H W D n) (hN : NodI U n vol) (n59 : n < 60) {e kp : Nat} (e64 : e < 64) (e1 : ¬ V 1 e = 0) {nm ym kind : Int32} (hn : Nm nm ym) (hk : kind = 1 ∨ kind = 2) (a4 : ∀ j, V' 4 j = if j = e then nI n else V 4 j) (a6 : ∀ j, V' 6 j = if j = e then V 6 e + 1 else V 6 j) (kk : ∀ q : Fin 12, q ≠ 4 → q ≠ 6 → V' q = V q) : Rel none (addU U n (U 1 kp) (nI kp) nm kind) V' H W (fiD D n e (U 1 kp) (if kind = 2 then 1 else 0) (nI kp) ym) (n + 1) := by
  obtain ⟨u1, u2, u3, u4, u5, u05, u06⟩ := addU_r U n (U 1 kp) (nI kp) nm kind
  generalize addU U n (U 1 kp) (nI kp) nm kind = U' at u1 u2 u3 u4 u5 u05 u06
  obtain ⟨d4, d0, d1, d2, d3, d5, d6, d7⟩ := fiD_at D (e := e) n59 (U 1 kp) (if kind = 2 then 1 else 0) (nI kp) ym
  have o := fun {j} h4 hn h3 h44 => fiD_o D (n := n) (e := e) (U 1 kp) (if kind = 2 then 1 else 0) (nI kp) ym (j := j) h4 hn h3 h44
  have kd0 : ¬ kind = 0 := by rcases hk with z | z <;> rw [z] <;> decide
  have b := r.B
  have c1 := kk 1 (by decide) (by decide)
  have c0 := kk 0 (by decide) (by decide)
  refine r.fr ⟨?_, ?_, ?_, ?_, ?_, ?_, ?_, ?_, ?_, ?_, ?_⟩ (fun j h1 h2 => o (by omega) (by omega) (by omega) (by omega)) (fun k z => by cases z)
  · rw [o (by omega) (by omega) (by omega) (by omega), c0]; exact b.tk
  · rw [o (by omega) (by omega) (by omega) (by omega), c0]; exact b.lo
  · rw [o (by omega) (by omega) (by omega) (by omega), c0]; exact b.tr
  · rw [o (by omega) (by omega) (by omega) (by omega), c0]; exact b.rm
  · rw [d4, u05]
  · intro v hv
    rw [o (by omega) (by omega) (by omega) (by omega), kk 9 (by decide) (by decide)]; exact b.rt v hv
  · intro v hv
    rw [o (by omega) (by omega) (by omega) (by omega), kk 10 (by decide) (by decide)]; exact b.ov v hv
  · intro k hk'
    rw [o (by omega) (by omega) (by omega) (by omega)]; exact b.ha k hk'
  · intro k hk'
    rw [u1, u2, u3, u4]
    by_cases z : k = n
    · subst z
      rw [d0, d1, d2, d3, d5, if_pos rfl, if_pos rfl, if_pos rfl, if_pos rfl, if_neg kd0]
      exact ⟨rfl, rfl, Or.inl hn, rfl, fun _ => rfl⟩
    · rw [if_neg z, if_neg z, if_neg z, if_neg z, o (by omega) (by omega) (by omega) (by omega), o (by omega) (by omega) (by omega) (by omega), o (by omega) (by omega) (by omega) (by omega), o (by omega) (by omega) (by omega) (by omega), o (by omega) (by omega) (by omega) (by omega)]
      exact b.nd k (by omega)
  · intro f hf
    rw [o (by omega) (by omega) (by omega) (by omega), c1]
    exact b.th f hf
  · intro f hf q
    rw [c1] at q
    have en := b.en f hf q
    rw [o (by omega) (by omega) (by omega) (by omega), o (j := 701 + 9 * f + 2) (by omega) (by omega) (by omega) (by omega), o (j := 701 + 9 * f + 5) (by omega) (by omega) (by omega) (by omega), o (j := 701 + 9 * f + 6) (by omega) (by omega) (by omega) (by omega), o (j := 701 + 9 * f + 7) (by omega) (by omega) (by omega) (by omega), o (j := 701 + 9 * f + 8) (by omega) (by omega) (by omega) (by omega), c1, kk 2 (by decide) (by decide), kk 3 (by decide) (by decide), kk 7 (by decide) (by decide), kk 8 (by decide) (by decide), cov_fr (kk 10 (by decide) (by decide)), a4, a6]
    by_cases z : f = e
    · subst z
      rw [d6, d7, if_pos rfl, if_pos rfl, en.2.2.2.1]
      exact ⟨en.1, en.2.1, rfl, rfl, en.2.2.2.2.1, en.2.2.2.2.2⟩
    · rw [if_neg z, if_neg z, o (by omega) (by omega) (by omega) (by omega), o (by omega) (by omega) (by omega) (by omega)]
      exact en
theorem Rfs.make (x : Int32) : Rfs (M_X10_make [mR (some 188), mI x]) 3 := by
  intro J X X1 y h hp hc
  rw [E_X10_make]
  simp only [h.kt, if_true, hp, Option.bind_some, asI_I, h.fz, w_refuses h _ (show (3 : Int32) = nI 3 from rfl) (by decide)]
  rcases hc with z | ⟨z1, z2⟩
  · rw [if_pos z]
  · rw [if_neg z1, if_pos z2]
theorem P_make {I : MI} {J : MJ} {T B0 : Nat} (h : St I J T B0) (h30 : T + 10001 ≤ 1000000000) (x : Int32) : Pair I J T B0 (M_X9_make [mR (some 0), mI x]) (M_X10_make [mR (some 188), mI x]) := by
  obtain ⟨n, t1, t2, t3⟩ := h.2.1
  have T4 := t1.1
  have w1' : vw 6 (tkn I n) 1 = vw 6 I 1 := vw_fr (fun x _ _ => tkn_o I n (by omega) (by omega))
  by_cases hy : (rowO I n).1 = 1
  · rcases h.2.2.2.2.2.2.2.2.2 with td | u
    · obtain ⟨vol, nn, t, X, J1, hv, i, c, r, k1, kl, rl, ⟨e1, e2, e3, e4, e16⟩, x186, rest⟩ := act_pre (n := n) h h30 td t1 t2 t3 hy
      have n60 := i.N.n60
      have ev : vw 6 I 1 0 5 = nI nn := i.N.ev
      by_cases full : nn = 60
      · have hf : ¬ q_X2_isFull (vw 6 (tkn I n) 1) = 0 := by
          rw [w1']
          unfold q_X2_isFull
          rw [ev, full]
          decide
        refine Pair.path_full h h30 td t1 t2 t3 hy (k := 3) (by decide) (u_make_full h.1.1 I T4 t1.2.1 x hy hf) (fun Y Y1 y1 y2 y3 => ?_)
        have t13 : ¬ bz (Y1 188 13) = 0 := by
          rw [y3 13 (by decide) (by decide) (by decide) (by decide)]
          obtain ⟨_, _, _, _, _, z, _⟩ := td
          exact z
        have y4 : Y1 194 4 = 60 := by rw [y2, r.B.ev, ev, full]; rfl
        rw [E_X10_make]
        simp only [h.1.2.kt, if_true, y1, Option.bind_some, asI_I, if_neg i10, h.1.2.fz, if_neg t13, h.1.2.f18, h.1.2.ldD _ (show (4 : Int32) = nI 4 from rfl) (show 4 < 1853 by decide), y4, w_refuses h.1.2 _ (show (3 : Int32) = nI 3 from rfl) (by decide)]
      · have n59 : nn < 60 := by omega
        have hf : q_X2_isFull (vw 6 (tkn I n) 1) = 0 := by
          rw [w1']
          unfold q_X2_isFull
          rw [ev, if_pos (show nI nn < 60 from nI_lt (b := 60) n59 (by decide))]
        have uE := u_make h.1.1 I T4 t1.2.1 x hy hf k1 kl
        unfold q_X8_makeAt gU_X8_makeAt gV_X8_makeAt at uE
        rw [e1, e2] at uE
        have ip := i.T (show T ≤ T + 10000 by omega) (by omega)
        have tT := i.Z.tT
        have place : ∀ (Z : MI) (l' : Nat), Pth (vw 2 X 158) (Z 192) l' → l' ≤ 12 → Z 188 20 = -1 → Z 188 21 = -1 → Z 194 = I 194 → ∃ D' G' c' y t', M_X10_isPlace [mR (some 188), mR (some 192), mI (nI l')] (Z, J1) = some (some (mI y), (rF Z D' G' c', J1)) ∧ Stq none (vw 6 I 1) (vw 12 I 17) (gV_X1_walk 12 (vw 2 X 158) (vw 6 I 1) (vw 12 I 17) (vw 2 X 158 0 1 - 1)) (vw 1 I 29) (wks I 31) D' nn vol t' (T + 10000) 0 (fun _ => 0) ∧ t' ≤ t + 25 ∧ Plo (vw 6 I 1) (gV_X1_walk 12 (vw 2 X 158) (vw 6 I 1) (vw 12 I 17) (vw 2 X 158 0 1 - 1)) (vw 2 X 158) (Z 192) l' 12 (q_X1_walk 12 (vw 2 X 158) (vw 6 I 1) (vw 12 I 17) (vw 2 X 158 0 1 - 1)) y c' := by
          intro Z l' pth l12 z20 z21 zD
          obtain ⟨D', G', c', y, t', w1, w2, w3, w4, w5⟩ := r.isPlace ip c (fun e _ z => absurd rfl z) rl Z (by rw [z20]; exact Or.inl ⟨rfl, fun _ => rfl⟩) z21 (Z 195) (Z 188 22) rl.s14 (by decide) (L := 12) pth l12 (by decide) (by omega) (by omega)
          rw [← zD, rF_id] at w1
          exact ⟨D', G', c', y, t', w1, w2, by omega, w5⟩
        generalize hQ : q_X1_walk 12 (vw 2 X 158) (vw 6 I 1) (vw 12 I 17) (vw 2 X 158 0 1 - 1) = Q at uE place
        generalize hV1 : gV_X1_walk 12 (vw 2 X 158) (vw 6 I 1) (vw 12 I 17) (vw 2 X 158 0 1 - 1) = V1 at uE place
        have begin_ : ∀ (I1 Y1 Z : MI) (l' : Nat) (y : Int32) (D' G' : RowV) (c' : Int32), M_X10_isPath [mR (some 188)] (I1, J1) = some (some (mI 1), (Y1, J1)) → (∀ k, k ≠ 1 → k ≠ 2 → k ≠ 3 → k ≠ 15 → Y1 188 k = I 188 k) → Y1 194 = I 194 → M_X10_keeps [mR (some 188)] (Y1, J1) = some (none, (Z, J1)) → Z 188 15 = nI l' → M_X10_isPlace [mR (some 188), mR (some 192), mI (nI l')] (Z, J1) = some (some (mI y), (rF Z D' G' c', J1)) → M_X10_make [mR (some 188), mI x] (I1, J1) = if y = 0 then some (some (mI (-1)), (rfR (rF Z D' G' c') 3, J1)) else M_X10_make [mR (some 188), mI x] (I1, J1) := by
          intro I1 Y1 Z l' y D' G' c' g1 g2 g3 g4 g5 g6
          by_cases z : y = 0
          · rw [if_pos z]
            have t13 : ¬ bz (Y1 188 13) = 0 := by
              rw [g2 13 (by decide) (by decide) (by decide) (by decide)]
              obtain ⟨_, _, _, _, _, z, _⟩ := td
              exact z
            have y4 : ¬ Y1 194 4 = 60 := by rw [g3, r.B.ev, ev]; exact fun w => full ((nI_eq (b := 60) (by omega) (by decide)).mp w)
            rw [E_X10_make]
            simp only [rl.kt, if_true, g1, Option.bind_some, asI_I, if_neg i10, rl.fz, if_neg t13, rl.f18, rl.ldD _ (show (4 : Int32) = nI 4 from rfl) (show 4 < 1853 by decide), if_neg y4, g4, asV_n, rl.f14, rl.fi, g5, g6, if_pos z, w_refuses rl _ (show (3 : Int32) = nI 3 from rfl) (by decide)]
          · rw [if_neg z]
        have g13 : ∀ (Y1 : MI), (∀ k, k ≠ 1 → k ≠ 2 → k ≠ 3 → k ≠ 15 → Y1 188 k = I 188 k) → ¬ bz (Y1 188 13) = 0 := fun Y1 g2 => by
          rw [g2 13 (by decide) (by decide) (by decide) (by decide)]
          obtain ⟨_, _, _, _, _, z, _⟩ := td
          exact z
        have g4' : ∀ (Y1 : MI), Y1 194 = I 194 → ¬ Y1 194 4 = 60 := fun Y1 g3 => by rw [g3, r.B.ev, ev]; exact fun w => full ((nI_eq (b := 60) (by omega) (by decide)).mp w)
        obtain ⟨Z0, Y0, l0, _, _, _, _, b0, p0, x0, _, f0, _⟩ := rest X (fun _ _ _ => rfl)
        obtain ⟨D0, G0, c0, y0, t0, _, s0, tl0, w0⟩ := place Z0 l0 p0 b0 f0.2.1 f0.2.2.1 f0.1
        have oX : ∀ (U' : NodV) (V' : MemV) y, y = 0 ∨ (7 ≤ y ∧ y < 17) ∨ 29 ≤ y → pt (pt X 1 U') 17 V' y = X y := fun U' V' y q => by rw [pt_out (by omega), pt_out (by omega)]
        have oZ : ∀ (U' : NodV) (V' : MemV) y, y = 0 ∨ (7 ≤ y ∧ y < 17) ∨ 29 ≤ y → y ≠ 186 → rfz (pt (pt X 1 U') 17 V') 3 y = X y := fun U' V' y q q2 => by rw [rfz_o _ _ q2, oX U' V' y q]
        have win : ∀ (U' : NodV) (V' : MemV), Win (pt (pt X 1 U') 17 V') U' V' (vw 1 I 29) (wks I 31) := fun U' V' => by
          refine ⟨?_, vw_pt _ _ _, ?_, fun j hj => ?_⟩
          · rw [vw_out _ _ (by decide), vw_pt]
          · rw [← e3]; exact vw_fr (fun y _ _ => oX U' V' y (by omega))
          · rw [wks_fr (I := I) (fun y p q => by rw [oX U' V' y (by omega), e4 y p (by omega)]) hj]; exact WkEq.refl _
        have winr : ∀ (U' : NodV) (V' : MemV), Win (rfz (pt (pt X 1 U') 17 V') 3) U' V' (vw 1 I 29) (wks I 31) := fun U' V' => by
          obtain ⟨a, b, c, d⟩ := win U' V'
          refine ⟨?_, ?_, ?_, fun j hj => ?_⟩
          · rw [vw_fr (I := pt (pt X 1 U') 17 V') (fun y _ _ => rfz_o _ _ (by omega))]; exact a
          · rw [vw_fr (I := pt (pt X 1 U') 17 V') (fun y _ _ => rfz_o _ _ (by omega))]; exact b
          · rw [vw_fr (I := pt (pt X 1 U') 17 V') (fun y _ _ => rfz_o _ _ (by omega))]; exact c
          · rw [wks_fr (I := pt (pt X 1 U') 17 V') (fun y p q => rfz_o _ _ (by omega)) hj]; exact d j hj
        have r186 : ∀ (U' : NodV) (V' : MemV) j, rfz (pt (pt X 1 U') 17 V') 3 186 j = if j = 3 then I 186 3 + 1 else I 186 j := fun U' V' j => by
          unfold rfz
          rw [up2_r, oX U' V' 186 (by decide), x186]
        rcases w0 with ⟨_, l0', a', _, qa, at', fo, fo2, nm0, la⟩ | ⟨y00, bad⟩
        · have a64 := at'.1
          obtain ⟨kp, kpn, kpe, kp2⟩ := i.N.fo fo
          have t30 := i.Z.tT
          rw [if_neg fo2, if_neg fo2, if_neg fo2] at uE
          have child : ∀ (Z : MI) (D1 G1 : RowV) (t1 : Nat), Stq none (vw 6 I 1) (vw 12 I 17) V1 (vw 1 I 29) (wks I 31) D1 nn vol t1 (T + 10000) 0 (fun _ => 0) → t1 ≤ t + 25 → Z 188 20 = -1 → Z 188 21 = -1 → ∀ {nm ym : Int32}, Nm nm ym → ∃ D' G' e, M_X10_childOf [mR (some 188), mI (nI a'), mI ym] (rF Z D1 G1 (nI a'), J1) = some (some (mI (nI e)), (rF Z D' G' (nI a'), J1)) ∧ q_X1_reach (vw 6 I 1) V1 (nI a') nm = nI e ∧ e < 64 ∧ Stq none (vw 6 I 1) V1 (gV_X1_reach (vw 6 I 1) V1 (nI a') nm) (vw 1 I 29) (wks I 31) D' nn vol (t1 + 1) (T + 10000) 1 (fun _ => 0) ∧ gV_X1_reach (vw 6 I 1) V1 (nI a') nm 1 e = 1 ∧ gV_X1_reach (vw 6 I 1) V1 (nI a') nm 2 e = nI a' ∧ gV_X1_reach (vw 6 I 1) V1 (nI a') nm 3 e = nm ∧ gV_X1_reach (vw 6 I 1) V1 (nI a') nm 4 e = q_X2_find (vw 6 I 1) (V1 4 a') nm ∧ gV_X1_reach (vw 6 I 1) V1 (nI a') nm 4 a' = V1 4 a' ∧ gV_X1_reach (vw 6 I 1) V1 (nI a') nm 1 a' = 1 := by
            intro Z D1 G1 t1 s1 ht1 z20 z21 nm ym hn
            exact s1.1.childOf s1.2.1 s1.2.2.1 (fun e _ z => absurd rfl z) rl Z (by rw [z20]; exact Or.inl ⟨rfl, fun _ => rfl⟩) z21 G1 (nI a') (fun k z => by cases z) a64 at'.2.1 fo hn (by omega)
          obtain ⟨_, _, e, _, qe, e64, s1, v1e, v2e, v3e, v4e, v4a, v1a⟩ := child Z0 D0 G0 t0 s0 tl0 f0.2.1 f0.2.2.1 nm0
          have nm00 : Nm (vw 2 X 158 1 (l0 - 1)) (Z0 192 (l0 - 1)) := nm0
          have lpos : 0 < q_X4_last 12 (vw 2 X 158) := by
            rw [la]
            exact nm0.gt.1
          unfold q_X8_gapIn gV_X8_gapIn at uE
          rw [if_pos lpos, if_pos lpos, qa, la, qe] at uE
          have l0b := b0
          have kp60 : kp < 60 := by omega
          generalize hV2 : gV_X1_reach (vw 6 I 1) V1 (nI a') (vw 2 X 158 1 (l0 - 1)) = V2 at uE s1 v1e v2e v3e v4e v4a v1a
          have isA : q_X1_isAbsence V2 (nI e) = if V2 4 e = -1 then 1 else 0 := by
            unfold q_X1_isAbsence
            rw [Inv.isE e64 (by rw [v1e]; exact i10), if_neg i10, ix_nI (by omega)]
          have ref1 : ∀ (I1 Y1 Z : MI) (D' G' : RowV) (t1 : Nat), M_X10_isPath [mR (some 188)] (I1, J1) = some (some (mI 1), (Y1, J1)) → (∀ k, k ≠ 1 → k ≠ 2 → k ≠ 3 → k ≠ 15 → Y1 188 k = I 188 k) → Y1 194 = I 194 → M_X10_keeps [mR (some 188)] (Y1, J1) = some (none, (Z, J1)) → Z 188 15 = nI l0 → Z 188 20 = -1 → Z 188 21 = -1 → M_X10_isPlace [mR (some 188), mR (some 192), mI (nI l0)] (Z, J1) = some (some (mI 1), (rF Z D' G' (nI a'), J1)) → Nm (vw 2 X 158 1 (l0 - 1)) (Z 192 (l0 - 1)) → Stq none (vw 6 I 1) (vw 12 I 17) V1 (vw 1 I 29) (wks I 31) D' nn vol t1 (T + 10000) 0 (fun _ => 0) → t1 ≤ t + 25 → ∃ D2 G2, Stq none (vw 6 I 1) V1 V2 (vw 1 I 29) (wks I 31) D2 nn vol (t1 + 1) (T + 10000) 1 (fun _ => 0) ∧ M_X10_make [mR (some 188), mI x] (I1, J1) = if V2 4 e = -1 then some (some (mI (nI nn)), (rF Z (fiD D2 nn e (vw 6 I 1 1 kp) (if x = 0 then 0 else 1) (nI kp) (Z 192 (l0 - 1))) G2 (nI a'), J1)) else some (some (mI (-1)), (rfR (rF Z D2 G2 (nI a')) 3, J1)) := by
            intro I1 Y1 Z D' G' t1 g1 g2 g3 g4 g5 z20 z21 g6 nm' st1 ht1
            obtain ⟨D2, G2, e', c1, c2, c3, c4, _⟩ := child Z D' G' t1 st1 ht1 z20 z21 nm'
            have ee : e' = e := (nI_eq (by omega) (by omega)).mp (c2.symm.trans qe)
            subst ee
            rw [hV2] at c4
            refine ⟨D2, G2, c4, ?_⟩
            have b1 := st1.1.B.en a' a64 (by rw [at'.2.1]; exact i10)
            have b2 := c4.1.B.en e' e64 (by rw [v1e]; exact i10)
            have dk : D' (701 + 9 * a' + 3) = nI kp := by rw [b1.2.2.1, kpe]
            have dn : D2 4 = nI nn := by rw [c4.1.B.ev, ev]
            have dp : D2 (401 + 5 * kp + 0) = vw 6 I 1 1 kp := (c4.1.B.nd kp (by omega)).1
            have lm : nI l0 - 1 = nI (l0 - 1) := nI_sub (b := 1) (by omega)
            have ls : ∀ D G, ld (rF Z D G (nI a'), J1) 11 192 (nI (l0 - 1)) = some (Z 192 (l0 - 1)) := fun D G => by
              rw [ld_ok _ rl.s14 (inb_nI (by omega) (by decide)), rF_o _ _ _ _ (by decide) (by decide) (by decide), show (nI (l0 - 1)).toNatClampNeg = l0 - 1 from ix_nI (by omega)]
            have z15 : ∀ D G, rF Z D G (nI a') 188 15 = nI l0 := fun D G => by rw [rF_k _ _ _ _ (by decide)]; exact g5
            rw [E_X10_make]
            simp only [rl.kt, if_true, g1, Option.bind_some, asI_I, if_neg i10, rl.fz, if_neg (g13 Y1 g2), rl.f18, rl.ldD _ (show (4 : Int32) = nI 4 from rfl) (show 4 < 1853 by decide), if_neg (g4' Y1 g3), g4, asV_n, rl.f14, rl.fi, g5, g6, rF_c, w_its rl _ 3 (show (3 : Int32) = nI 3 from rfl) (show a' < 128 by omega) (by decide), rF_D, dk, z15, lm, ls, c1, w_its rl _ 3 (show (3 : Int32) = nI 3 from rfl) (show e' < 128 by omega) (by decide), b2.2.2.1, w_refuses rl _ (show (3 : Int32) = nI 3 from rfl) (by decide)]
            by_cases em : V2 4 e' = -1
            · rw [if_pos em, if_pos em]
              simp only [rl.kt, if_true, dn, nI_1, rl.stD _ _ (show (4 : Int32) = nI 4 from rfl) (show 4 < 1853 by decide), Option.bind_some, rF_sD, w_nodeAt _ nn 0 (show (0 : Int32) = nI 0 from rfl), w_nodeAt _ nn 1 (show (1 : Int32) = nI 1 from rfl), w_nodeAt _ nn 2 (show (2 : Int32) = nI 2 from rfl), w_nodeAt _ nn 3 (show (3 : Int32) = nI 3 from rfl), w_nodeAt _ nn 4 (show (4 : Int32) = nI 4 from rfl), asI_I, w_nodeHas rl _ 0 (show (0 : Int32) = nI 0 from rfl) kp60 (by decide), rF_D, sD_n _ _ (show 401 + 5 * kp + 0 ≠ 4 by omega), dp, w_flag, rl.f18, rl.f14, rl.fi, z15, lm, ls, rl.stD _ _ (show nI (401 + 5 * nn + 0) = nI (401 + 5 * nn + 0) from rfl) (show 401 + 5 * nn + 0 < 1853 by omega), rl.stD _ _ (show nI (401 + 5 * nn + 1) = nI (401 + 5 * nn + 1) from rfl) (show 401 + 5 * nn + 1 < 1853 by omega), rl.stD _ _ (show nI (401 + 5 * nn + 2) = nI (401 + 5 * nn + 2) from rfl) (show 401 + 5 * nn + 2 < 1853 by omega), rl.stD _ _ (show nI (401 + 5 * nn + 3) = nI (401 + 5 * nn + 3) from rfl) (show 401 + 5 * nn + 3 < 1853 by omega), rl.stD _ _ (show nI (401 + 5 * nn + 4) = nI (401 + 5 * nn + 4) from rfl) (show 401 + 5 * nn + 4 < 1853 by omega), w_entryAt _ e' 3 (show (3 : Int32) = nI 3 from rfl), w_entryAt _ e' 4 (show (4 : Int32) = nI 4 from rfl), rl.stD _ _ (show nI (701 + 9 * e' + 3) = nI (701 + 9 * e' + 3) from rfl) (show 701 + 9 * e' + 3 < 1853 by omega), rl.stD _ _ (show nI (701 + 9 * e' + 4) = nI (701 + 9 * e' + 4) from rfl) (show 701 + 9 * e' + 4 < 1853 by omega), rl.ldD _ (show nI (701 + 9 * e' + 4) = nI (701 + 9 * e' + 4) from rfl) (show 701 + 9 * e' + 4 < 1853 by omega), sD_n _ _ (show 701 + 9 * e' + 4 ≠ 4 by omega), sD_n _ _ (show 701 + 9 * e' + 4 ≠ 401 + 5 * nn + 0 by omega), sD_n _ _ (show 701 + 9 * e' + 4 ≠ 401 + 5 * nn + 1 by omega), sD_n _ _ (show 701 + 9 * e' + 4 ≠ 401 + 5 * nn + 2 by omega), sD_n _ _ (show 701 + 9 * e' + 4 ≠ 401 + 5 * nn + 3 by omega), sD_n _ _ (show 701 + 9 * e' + 4 ≠ 401 + 5 * nn + 4 by omega), sD_n _ _ (show 701 + 9 * e' + 4 ≠ 701 + 9 * e' + 3 by omega)]
              unfold fiD
              rfl
            · rw [if_neg em, if_neg em]
          by_cases em : V2 4 e = -1
          · have nfi : q_X2_find (vw 6 I 1) (nI kp) (V2 3 e) = -1 := by rw [v3e, ← kpe, ← v4e]; exact em
            have no1 : ¬ nI e = -1 := nI_m1 (by omega)
            rw [isA, if_pos em, if_neg i10, if_neg i10] at uE
            rw [if_neg no1, if_neg no1, if_neg no1] at uE
            have nodeOf : q_X1_nodeOf V2 (V2 2 (ix (nI e))) = nI kp := by
              unfold q_X1_nodeOf
              rw [ix_nI (by omega), v2e, Inv.isE a64 (by rw [v1a]; exact i10), if_neg i10, ix_nI (by omega), v4a, kpe]
            have kpf : ¬ q_X2_isFolder (vw 6 I 1) (nI kp) = 0 := by rw [i.N.fo' kpn kp2]; exact i10
            have fl : ∀ kd, q_X1_fill (vw 6 I 1) V2 (nI e) kd = nI nn ∧ gU_X1_fill (vw 6 I 1) V2 (nI e) kd = addU (vw 6 I 1) nn (vw 6 I 1 1 kp) (nI kp) (V2 3 e) kd ∧ gV_X1_fill (vw 6 I 1) V2 (nI e) kd = uv (uv V2 4 e (nI nn)) 6 e (V2 6 e + 1) := fun kd => by
              have pe := put_eq i.N n59 (vw 6 I 1 1 kp) (nI kp) (V2 3 e) kd
              unfold q_X1_fill gU_X1_fill gV_X1_fill
              rw [isA, if_pos em, if_neg i10, if_neg i10, if_neg i10, nodeOf, ix_nI (by omega)]
              unfold q_X2_addIn gU_X2_addIn
              rw [if_neg kpf, if_neg kpf, ix_nI (by omega), pe.1, pe.2]
              exact ⟨rfl, rfl, rfl⟩
            have uE2 : M_X9_make [mR (some 0), mI x] (I, J) = some (some (mI (nI nn)), (pt (pt X 1 (addU (vw 6 I 1) nn (vw 6 I 1 1 kp) (nI kp) (V2 3 e) (if x = 0 then 1 else 2))) 17 (uv (uv V2 4 e (nI nn)) 6 e (V2 6 e + 1)), J1)) := by
              rw [(fl 1).1, (fl 1).2.1, (fl 1).2.2, (fl 2).1, (fl 2).2.1, (fl 2).2.2] at uE
              simp only [ite_self] at uE
              rw [if_pos (nI_pos' (show nn < 2 ^ 31 by omega))] at uE
              rw [uE]
              by_cases z : x = 0
              · rw [if_pos z, if_pos z]
              · rw [if_neg z, if_neg z]
            obtain ⟨Z, Y1, l', g1, g2, g3, g4, l12, pth, x158, z15, zf, fin⟩ := rest (pt (pt X 1 (addU (vw 6 I 1) nn (vw 6 I 1 1 kp) (nI kp) (V2 3 e) (if x = 0 then 1 else 2))) 17 (uv (uv V2 4 e (nI nn)) 6 e (V2 6 e + 1))) (fun y q _ => oX _ _ y (by omega))
            have ll : l' = l0 := (nI_eq (by omega) (by omega)).mp (x158.symm.trans x0)
            subst ll
            obtain ⟨D', G', c', y, t', w1, w2, w3, w5⟩ := place Z l' pth l12 zf.2.1 zf.2.2.1 zf.1
            obtain ⟨y1, _, b', cb, qb, _, _, _, nmZ, _⟩ | ⟨_, bad⟩ := w5
            · have bb : c' = nI a' := by rw [cb, ← qb, qa]
              subst y1 bb
              obtain ⟨D2, G2, s2, rE⟩ := ref1 _ _ _ _ _ _ g1 g2 g3 g4 z15 zf.2.1 zf.2.2.1 w1 nmZ w2 w3
              rw [if_pos em] at rE
              have kd12 : (if x = 0 then (1 : Int32) else 2) = 1 ∨ (if x = 0 then (1 : Int32) else 2) = 2 := by
                by_cases z : x = 0
                · rw [if_pos z]; exact Or.inl rfl
                · rw [if_neg z]; exact Or.inr rfl
              have a4 : ∀ j, uv (uv V2 4 e (nI nn)) 6 e (V2 6 e + 1) 4 j = if j = e then nI nn else V2 4 j := fun j => by simp [uv]
              have a6 : ∀ j, uv (uv V2 4 e (nI nn)) 6 e (V2 6 e + 1) 6 j = if j = e then V2 6 e + 1 else V2 6 j := fun j => by simp [uv]
              have kk : ∀ q : Fin 12, q ≠ 4 → q ≠ 6 → uv (uv V2 4 e (nI nn)) 6 e (V2 6 e + 1) q = V2 q := fun q q4 q6 => by rw [uv_k _ _ _ _ _ q6, uv_k _ _ _ _ _ q4]
              have fe : (if (if x = 0 then (1 : Int32) else 2) = 2 then (1 : Int32) else 0) = if x = 0 then 0 else 1 := by
                by_cases z : x = 0
                · rw [if_pos z, if_pos z]; decide
                · rw [if_neg z, if_neg z]; decide
              have r2 := s2.1.fill (V' := uv (uv V2 4 e (nI nn)) 6 e (V2 6 e + 1)) (kp := kp) i.N n59 e64 (by rw [v1e]; exact i10) (show Nm (V2 3 e) (Z 192 (l' - 1)) by rw [v3e]; exact nmZ) kd12 a4 a6 kk
              rw [fe] at r2
              have i2 := s2.2.1.fill (kp := kp) (V' := uv (uv V2 4 e (nI nn)) 6 e (V2 6 e + 1)) h30 n59 e64 v1e v2e em a64 v1a (by rw [v4a, kpe]) kpn kp2 (by rw [v3e]; exact (i32_gt_ne nmZ.gt.1).2.2.1) nfi kd12 rfl a4 a6 kk
              exact ⟨nI nn, _, _, J1, uE2, rE, fin1 fin zf h.2.2.2.1 (by rw [oX _ _ 186 (by decide)]; exact x186) (win _ _) i2 (s2.2.2.1.fr (kk 1 (by decide) (by decide)) (kk 9 (by decide) (by decide))) r2⟩
            · rcases bad with b | b
              · exact absurd b fo2
              · exact absurd lpos b
          · have uE2 : M_X9_make [mR (some 0), mI x] (I, J) = some (some (mI (-1)), (rfz (pt (pt X 1 (vw 6 I 1)) 17 V2) 3, J1)) := by
              rw [isA, if_neg em, if_pos rfl, if_pos rfl] at uE
              simp only [if_true] at uE
              rw [if_neg (show ¬ (0 : Int32) ≤ -1 by decide)] at uE
              exact uE
            obtain ⟨Z, Y1, l', g1, g2, g3, g4, l12, pth, x158, z15, zf, fin⟩ := rest (rfz (pt (pt X 1 (vw 6 I 1)) 17 V2) 3) (fun y q q2 => oZ _ _ y (by omega) q2)
            have ll : l' = l0 := (nI_eq (by omega) (by omega)).mp (x158.symm.trans x0)
            subst ll
            obtain ⟨D', G', c', y, t', w1, w2, w3, w5⟩ := place Z l' pth l12 zf.2.1 zf.2.2.1 zf.1
            obtain ⟨y1, _, b', cb, qb, _, _, _, nmZ, _⟩ | ⟨_, bad⟩ := w5
            · have bb : c' = nI a' := by rw [cb, ← qb, qa]
              subst y1 bb
              obtain ⟨D2, G2, s2, rE⟩ := ref1 _ _ _ _ _ _ g1 g2 g3 g4 z15 zf.2.1 zf.2.2.1 w1 nmZ w2 w3
              rw [if_neg em] at rE
              exact ⟨-1, _, _, J1, uE2, rE, fin1r (k := 3) fin zf h.2.2.2.1 (by decide) (r186 _ _) (winr _ _) (s2.2.1.T (show T + 10000 ≤ T + 10001 by omega) h30) s2.2.2.1 s2.1⟩
            · rcases bad with b | b
              · exact absurd b fo2
              · exact absurd lpos b
        · subst y00
          have uE2 : M_X9_make [mR (some 0), mI x] (I, J) = some (some (mI (-1)), (rfz (pt (pt X 1 (vw 6 I 1)) 17 V1) 3, J1)) := by
            rcases bad with b | b
            · rw [if_pos b, if_pos b, if_pos b, if_neg (show ¬ (0 : Int32) ≤ -1 by decide)] at uE
              exact uE
            · by_cases b' : q_X1_isFolder (vw 6 I 1) V1 Q = 0
              · rw [if_pos b', if_pos b', if_pos b', if_neg (show ¬ (0 : Int32) ≤ -1 by decide)] at uE
                exact uE
              · unfold q_X8_gapIn gV_X8_gapIn at uE
                rw [if_neg b', if_neg b', if_neg b', if_neg b, if_pos rfl, if_pos rfl, if_pos rfl, if_neg (show ¬ (0 : Int32) ≤ -1 by decide), if_neg b] at uE
                exact uE
          obtain ⟨Z, Y1, l', g1, g2, g3, g4, l12, pth, x158, z15, zf, fin⟩ := rest (rfz (pt (pt X 1 (vw 6 I 1)) 17 V1) 3) (fun y q q2 => oZ _ _ y (by omega) q2)
          obtain ⟨D', G', c', y, t', w1, w2, _, w5⟩ := place Z l' pth l12 zf.2.1 zf.2.2.1 zf.1
          have yz : y = 0 := by
            rcases w5 with ⟨_, l1', a', _, qa, at', _, fo2, nm0, la⟩ | ⟨z, _⟩
            · rcases bad with b | b
              · exact absurd b fo2
              · rw [la] at b
                exact absurd nm0.gt.1 b
            · exact z
          subst yz
          refine ⟨-1, _, rfR (rF Z D' G' c') 3, J1, uE2, ?_, fin1r (k := 3) fin zf h.2.2.2.1 (by decide) (r186 _ _) (winr _ _) (w2.2.1.T (show T + 10000 ≤ T + 10001 by omega) h30) w2.2.2.1 w2.1⟩
          rw [begin_ _ _ _ _ _ _ _ _ g1 g2 g3 g4 z15 w1, if_pos rfl]
    · refine absurd hy ?_
      unfold rowO
      rw [if_pos (by rw [u.2.2.1.2.1]; exact Int32.le_refl _)]
      exact (by decide : ¬ (-1 : Int32) = 1)
  · exact Pair.path_no h h30 t1 t2 t3 hy (by decide) (u_make_no h.1.1 I T4 t1.2.1 x hy) (Rfs.make x)
end
section
/-! A node taken away, and its entry: what holds stays. -/
theorem NodI.gone {U U' : NodV} {n vol : Nat} (h : NodI U n vol) {k : Nat} (k2 : ¬ U 2 k = -1) (nc : ∀ j, j < n → ¬ U 4 j = 0 → ¬ U 2 j = nI k) (u4 : ∀ j, U' 4 j = if j = k then 0 else U 4 j) (uk : ∀ q : Fin 6, q ≠ 4 → U' q = U q) : NodI U' n vol := by
  have u0 := uk 0 (by decide)
  have u1 := uk 1 (by decide)
  have u2 := uk 2 (by decide)
  have u3 := uk 3 (by decide)
  have u5 := uk 5 (by decide)
  have bk : ∀ {j}, ¬ U' 4 j = 0 → j ≠ k ∧ ¬ U 4 j = 0 := fun {j} q => by
    rw [u4] at q
    by_cases z : j = k
    · rw [if_pos z] at q; exact absurd rfl q
    · rw [if_neg z] at q; exact ⟨z, q⟩
  refine ⟨by rw [u0]; exact h.ev, h.n60, by rw [u0]; exact h.vs, h.v3, fun j hj => ?_, fun j hj => ?_, fun j hj q => ?_, fun v hv => ?_, fun j hj q1 q2 => ?_, fun i j hi hj q1 q2 q3 q4 q5 => ?_, ?_, by rw [u5]; exact h.r00, fun j hj q => by rw [u2] at q; rw [u3]; exact h.nn j hj q⟩
  · rw [u1]; exact h.vol j hj
  · rw [u4]
    by_cases z : j = k
    · rw [if_pos z]; exact Or.inl rfl
    · rw [if_neg z]; exact h.kd j hj
  · rw [u2] at q
    rw [u1, u5]
    exact h.rt j hj q
  · obtain ⟨r, r1, r2, r3, r4, r5⟩ := h.rts v hv
    refine ⟨r, r1, by rw [u5]; exact r2, ?_, by rw [u2]; exact r4, by rw [u1]; exact r5⟩
    rw [u4, if_neg]
    · exact r3
    · intro z; rw [z] at r4; exact k2 r4
  · obtain ⟨z1, z2⟩ := bk q1
    rw [u2] at q2
    obtain ⟨p, p1, p2, p3, p4⟩ := h.par j hj z2 q2
    refine ⟨p, p1, by rw [u2]; exact p2, ?_, by rw [u1]; exact p4⟩
    rw [u4, if_neg]
    · exact p3
    · intro z; rw [z] at p2; exact nc j hj z2 p2
  · rw [u2] at q3 q4
    rw [u3] at q5
    exact h.uq i j hi hj (bk q1).2 (bk q2).2 q3 q4 q5
  · obtain ⟨d, hd⟩ := h.rk
    refine ⟨d, fun i p hi hp q1 q2 => ?_⟩
    rw [u2] at q2
    exact hd i p hi hp (bk q1).2 q2
theorem fd_gone {U U' : NodV} {n vol : Nat} (h : NodI U n vol) (h' : NodI U' n vol) {k : Nat} (hk : k < n) (u4 : ∀ j, U' 4 j = if j = k then 0 else U 4 j) (uk : ∀ q : Fin 6, q ≠ 4 → U' q = U q) {a b : Int32} (ha : ¬ a = -1) : q_X2_find U' a b = if q_X2_find U a b = nI k then -1 else q_X2_find U a b := by
  have n60 := h.n60
  have u2 := uk 2 (by decide)
  have u3 := uk 3 (by decide)
  have bk : ∀ {j}, ¬ U' 4 j = 0 → j ≠ k ∧ ¬ U 4 j = 0 := fun {j} q => by
    rw [u4] at q
    by_cases z : j = k
    · rw [if_pos z] at q; exact absurd rfl q
    · rw [if_neg z] at q; exact ⟨z, q⟩
  rcases h.fd a b with ⟨q1, q2⟩ | ⟨j, j1, j2, j3, j4, j5⟩
  · rw [q1, if_neg (fun z => nI_m1 (show k < 2 ^ 31 by omega) z.symm)]
    rcases h'.fd a b with ⟨p1, _⟩ | ⟨j, j1, j2, j3, j4, j5⟩
    · exact p1
    · rw [u2] at j4
      rw [u3] at j5
      exact absurd j5 (q2 j j1 (bk j3).2 j4)
  · rw [j2]
    rcases h'.fd a b with ⟨p1, p2⟩ | ⟨i, i1, i2, i3, i4, i5⟩
    · rw [p1]
      by_cases z : j = k
      · rw [z, if_pos rfl]
      · exact absurd (by rw [u3]; exact j5) (p2 j j1 (by rw [u4, if_neg z]; exact j3) (by rw [u2]; exact j4))
    · obtain ⟨z1, z2⟩ := bk i3
      rw [u2] at i4
      rw [u3] at i5
      have : i = j := h.uq i j i1 j1 z2 j3 (by rw [i4]; exact ha) (by rw [i4, j4]) (by rw [i5, j5])
      subst this
      rw [i2, if_neg (fun z => z1 ((nI_eq (by omega) (by omega)).mp z))]
theorem fo_gone {U U' : NodV} {n vol : Nat} (h : NodI U n vol) (h' : NodI U' n vol) {k : Nat} (u4 : ∀ j, U' 4 j = if j = k then 0 else U 4 j) {y : Int32} (hy : ¬ y = nI k) (q : ¬ q_X2_isFolder U y = 0) : ¬ q_X2_isFolder U' y = 0 := by
  obtain ⟨j, j1, j2, j3⟩ := h.fo q
  rw [j2, h'.fo' j1 (by rw [u4, if_neg (fun z => hy (by rw [j2, z]))]; exact j3)]
  exact i10
theorem Inv.gone0 {U U' : NodV} {V V' : MemV} {H : OneV} {W : WkV} {n vol t T : Nat} (i : Inv U V H W n vol t T (fun _ => 0)) (h30 : T + 1 ≤ 1000000000) {e k p : Nat} (e64 : e < 64) (e1 : V 1 e = 1) (e2 : V 2 e = nI p) (p64 : p < 64) (e4 : V 4 e = nI k) (kn : k < n) (nc : ∀ j, j < n → ¬ U 4 j = 0 → ¬ U 2 j = nI k) (ec : ∀ f, f < 64 → ¬ V 1 f = 0 → ¬ V 2 f = nI e) (vc : ∀ v, v < 3 → ¬ V 10 v = nI e) (u4 : ∀ j, U' 4 j = if j = k then 0 else U 4 j) (uk : ∀ q : Fin 6, q ≠ 4 → U' q = U q) (hz : hc V H W e = 0) (a4 : ∀ j, V' 4 j = if j = e then -1 else V 4 j) (a6 : ∀ j, V' 6 j = if j = e then V 6 e + 1 else V 6 j) (kk : ∀ q : Fin 12, q ≠ 4 → q ≠ 6 → V' q = V q) : Inv U' V' H W n vol t (T + 1) (fun _ => 0) := by
  have hN := i.N
  have hM := i.M
  have n60 := hN.n60
  have e2m : ¬ V 2 e = -1 := by rw [e2]; exact nI_m1 (by omega)
  obtain ⟨p', p'1, p'2, p'3, p'4, p'5⟩ := hM.ch e e64 e1 e2m
  have pp : p' = p := (nI_eq (by omega) (by omega)).mp (p'2.symm.trans e2)
  subst pp
  have k2 : ¬ U 2 k = -1 ∧ ¬ U 4 k = 0 := by
    rcases hN.fd (V 4 p') (V 3 e) with ⟨q1, _⟩ | ⟨j, j1, j2, j3, j4, _⟩
    · rw [← p'5, e4] at q1
      exact absurd q1 (nI_m1 (by omega))
    · have : j = k := (nI_eq (by omega) (by omega)).mp (j2.symm.trans (p'5.symm.trans e4))
      subst this
      refine ⟨?_, j3⟩
      obtain ⟨kp, b1, b2, _⟩ := hN.fo p'4
      rw [j4, b2]
      exact nI_m1 (by omega)
  have hN' := hN.gone k2.1 nc u4 uk
  have u1 := uk 1 (by decide)
  have u5 := uk 5 (by decide)
  have fneg : ∀ {y}, ¬ q_X2_isFolder U y = 0 → ¬ y = -1 := fun {y} q z => by
    obtain ⟨j, b1, b2, _⟩ := hN.fo q
    rw [z] at b2
    exact nI_m1 (show j < 2 ^ 31 by omega) b2.symm
  have nk : ∀ f, f < 64 → ¬ V 1 f = 0 → f ≠ e → ¬ V 4 f = nI k := fun f hf q z w => z (hM.nd f e hf e64 q (by rw [e1]; exact i10) (by rw [w]; exact nI_m1 (by omega)) (by rw [w, e4]))
  have pe : p' ≠ e := fun z => ec e e64 (by rw [e1]; exact i10) (by rw [e2, z])
  have c3 := kk 3 (by decide) (by decide)
  have c8 := kk 8 (by decide) (by decide)
  have c9 := kk 9 (by decide) (by decide)
  have c10 := kk 10 (by decide) (by decide)
  have c0 := kk 0 (by decide) (by decide)
  have c1 := kk 1 (by decide) (by decide)
  have c2 := kk 2 (by decide) (by decide)
  have c5 := kk 5 (by decide) (by decide)
  obtain ⟨z1, z2, z3, z4⟩ := hc_z hz
  refine ⟨hN', ⟨?_, ?_, ?_, ?_, ?_, ?_, ?_, ?_, ?_, ?_, ?_, ?_⟩, ⟨?_, by have := i.Z.tT; omega, h30, ?_, ?_, ?_⟩, ?_, ?_, ?_⟩
  · rw [c1]; exact hM.st
  · rw [c9]; exact hM.r0
  · rw [c10]; exact hM.o0
  · intro v hv
    rw [c9, c10, c1, c2, u5]
    rcases hM.rt v hv with q | ⟨q1, r, r64, q2, q3, q4, q5⟩
    · exact Or.inl q
    · refine Or.inr ⟨q1, r, r64, q2, q3, q4, ?_⟩
      rw [a4, if_neg]
      · exact q5
      · intro z; rw [z] at q4; exact e2m q4
  · intro v h1 hv
    rw [c9, c10, c1, c2]
    intro q
    obtain ⟨o, o64, w1, w2, w3, w4⟩ := hM.ov v h1 hv q
    have oe : o ≠ e := fun z => vc v hv (by rw [w1, z])
    refine ⟨o, o64, w1, w2, w3, ?_⟩
    rw [a4, if_neg oe]
    exact fo_gone hN hN' u4 (nk o o64 (by rw [w2]; exact i10) oe) w4
  · rw [c10]; exact hM.oi
  · obtain ⟨ρ, hρ⟩ := hM.vr
    refine ⟨ρ, fun v o k u h1 h2 h3 h4 h5 h6 h7 h8 => ?_⟩
    rw [c10] at h4
    rw [a4, if_neg (fun z => vc v h2 (by rw [h4, z]))] at h5
    rw [u1] at h7
    exact hρ v o k u h1 h2 h3 h4 h5 h6 h7 h8
  · rw [c1, c2, c9]; exact hM.ro
  · intro f hf q1 q2
    rw [c1] at q1
    rw [c2] at q2
    rw [c2, c1, c3]
    obtain ⟨p, y1, y2, y3, y4, y5⟩ := hM.ch f hf q1 q2
    have pe : p ≠ e := fun z => ec f hf (by rw [q1]; exact i10) (by rw [y2, z])
    refine ⟨p, y1, y2, y3, ?_, ?_⟩
    · rw [a4, if_neg pe]; exact fo_gone hN hN' u4 (nk p y1 (by rw [y3]; exact i10) pe) y4
    · rw [a4, a4, if_neg pe, fd_gone hN hN' kn u4 uk (fneg y4), ← y5]
      by_cases z : f = e
      · rw [if_pos z, z, e4, if_pos rfl]
      · rw [if_neg z, if_neg (nk f hf (by rw [q1]; exact i10) z)]
  · intro f hf q1
    rw [c1] at q1
    rw [c2, a4, if_neg]
    · obtain ⟨b1, j, b2, b3, b4⟩ := hM.go f hf q1
      refine ⟨b1, j, b2, b3, ?_⟩
      rw [u4, b4, ite_self]
    · intro z
      rw [z, e1] at q1
      exact absurd q1 (by decide)
  · rw [c1, c2, c3]; exact hM.sb
  · intro f g hf hg q1 q2 q3 q4
    rw [c1] at q1 q2
    rw [a4] at q3
    rw [a4, a4] at q4
    by_cases z : f = e
    · rw [if_pos z] at q3; exact absurd rfl q3
    · rw [if_neg z] at q3 q4
      by_cases w : g = e
      · rw [if_pos w] at q4; exact absurd q4 q3
      · rw [if_neg w] at q4
        exact hM.nd f g hf hg q1 q2 q3 q4
  · rw [c0]; exact i.Z.tk
  · rw [c1, c8]; exact i.Z.bi
  · intro f hf q1
    rw [c1] at q1
    obtain ⟨c, d1, d2⟩ := i.Z.co f hf q1
    rw [a6]
    by_cases z : f = e
    · rw [if_pos z, ← z, d1]
      exact ⟨c + 1, nI_1 c, by omega⟩
    · rw [if_neg z]
      exact ⟨c, d1, by omega⟩
  · exact ⟨by rw [c0]; exact i.Z.li, i.Z.tri.le (by rw [c0]) (fun k _ q => by rw [c1] at q; exact q) (Nat.le_refl _)⟩
  · intro f hf
    rw [c1, c5, hc_fr c1 c2 c10]
    exact i.L f hf
  · intro j hj
    rcases i.H j hj with z | ⟨f, f64, w1, w2, w3⟩
    · exact Or.inl z
    · refine Or.inr ⟨f, f64, w1, ?_, ?_⟩
      · rw [c1]; exact w2
      · rw [a4, if_neg (fun z => z3 j hj (by rw [w1, z]))]; exact w3
  · intro j hj q
    obtain ⟨m, d, l, r, hr, hw⟩ := i.W j hj q
    have := hw.md
    have := hw.dl
    have := hw.l12
    refine ⟨m, d, l, r, hr, hw.m, hw.d, hw.l, hw.r, hw.m1, hw.md, hw.dl, hw.l12, hw.r3, fun b hb => ?_⟩
    obtain ⟨f, f64, g1, ⟨b1, c1', g2, g3, g4, g5, g6⟩, g7⟩ := (hw.wy b hb).ex
    refine ⟨f, f64, g1, ⟨b1, c1', g2, g3, g4, by omega, ?_⟩, ?_⟩
    · intro q1 q2
      rw [c1] at q1
      rw [c8] at q2
      obtain ⟨c2', x1, x2, x3, x4⟩ := g6 q1 q2
      rw [a6, c1, a4]
      by_cases z : f = e
      · rw [if_pos z, if_pos z, ← z, x1]
        exact ⟨c2' + 1, nI_1 c2', by omega, by omega, fun w => by omega⟩
      · rw [if_neg z, if_neg z]
        exact ⟨c2', x1, x2, by omega, x4⟩
    · intro q1
      have y := g7 q1
      have yne : f ≠ e := fun w => hcK_z hw.m (by omega) q q1 (z4 j hj) b hb (by rw [← w]; exact g1)
      rw [c1, a4, if_neg yne]
      exact y
theorem Inv.gone1 {U U' : NodV} {V V' : MemV} {H : OneV} {W : WkV} {n vol t T : Nat} (i : Inv U V H W n vol t T (fun _ => 0)) (h30 : T + 1 ≤ 1000000000) {e k p : Nat} (e64 : e < 64) (e1 : V 1 e = 1) (e2 : V 2 e = nI p) (p64 : p < 64) (e4 : V 4 e = nI k) (kn : k < n) (nc : ∀ j, j < n → ¬ U 4 j = 0 → ¬ U 2 j = nI k) (ec : ∀ f, f < 64 → ¬ V 1 f = 0 → ¬ V 2 f = nI e) (vc : ∀ v, v < 3 → ¬ V 10 v = nI e) (u4 : ∀ j, U' 4 j = if j = k then 0 else U 4 j) (uk : ∀ q : Fin 6, q ≠ 4 → U' q = U q) (hz : ¬ hc V H W e = 0) (a1 : ∀ j, V' 1 j = if j = e then 2 else V 1 j) (a2 : ∀ j, V' 2 j = if j = e then -1 else V 2 j) (a5 : ∀ j, V' 5 j = if j = p then V 5 p - 1 else V 5 j) (a6 : ∀ j, V' 6 j = if j = e then V 6 e + 1 else V 6 j) (kk : ∀ q : Fin 12, q ≠ 1 → q ≠ 2 → q ≠ 5 → q ≠ 6 → V' q = V q) : Inv U' V' H W n vol t (T + 1) (fun _ => 0) := by
  have hN := i.N
  have hM := i.M
  have n60 := hN.n60
  have e2m : ¬ V 2 e = -1 := by rw [e2]; exact nI_m1 (by omega)
  obtain ⟨p', p'1, p'2, p'3, p'4, p'5⟩ := hM.ch e e64 e1 e2m
  have pp : p' = p := (nI_eq (by omega) (by omega)).mp (p'2.symm.trans e2)
  subst pp
  have k2 : ¬ U 2 k = -1 ∧ ¬ U 4 k = 0 := by
    rcases hN.fd (V 4 p') (V 3 e) with ⟨q1, _⟩ | ⟨j, j1, j2, j3, j4, _⟩
    · rw [← p'5, e4] at q1
      exact absurd q1 (nI_m1 (by omega))
    · have : j = k := (nI_eq (by omega) (by omega)).mp (j2.symm.trans (p'5.symm.trans e4))
      subst this
      refine ⟨?_, j3⟩
      obtain ⟨kp, b1, b2, _⟩ := hN.fo p'4
      rw [j4, b2]
      exact nI_m1 (by omega)
  have hN' := hN.gone k2.1 nc u4 uk
  have u1 := uk 1 (by decide)
  have u5 := uk 5 (by decide)
  have fneg : ∀ {y}, ¬ q_X2_isFolder U y = 0 → ¬ y = -1 := fun {y} q z => by
    obtain ⟨j, b1, b2, _⟩ := hN.fo q
    rw [z] at b2
    exact nI_m1 (show j < 2 ^ 31 by omega) b2.symm
  have nk : ∀ f, f < 64 → ¬ V 1 f = 0 → f ≠ e → ¬ V 4 f = nI k := fun f hf q z w => z (hM.nd f e hf e64 q (by rw [e1]; exact i10) (by rw [w]; exact nI_m1 (by omega)) (by rw [w, e4]))
  have pe : p' ≠ e := fun z => ec e e64 (by rw [e1]; exact i10) (by rw [e2, z])
  have c3 := kk 3 (by decide) (by decide) (by decide) (by decide)
  have c8 := kk 8 (by decide) (by decide) (by decide) (by decide)
  have c9 := kk 9 (by decide) (by decide) (by decide) (by decide)
  have c10 := kk 10 (by decide) (by decide) (by decide) (by decide)
  have c0 := kk 0 (by decide) (by decide) (by decide) (by decide)
  have c4 := kk 4 (by decide) (by decide) (by decide) (by decide)
  have b1 : ∀ {f}, V' 1 f = 1 → f ≠ e ∧ V 1 f = 1 := fun {f} q => by
    rw [a1] at q
    by_cases z : f = e
    · rw [if_pos z] at q; exact absurd q (by decide)
    · rw [if_neg z] at q; exact ⟨z, q⟩
  have b0 : ∀ {f}, ¬ V' 1 f = 0 → ¬ V 1 f = 0 := fun {f} q => by
    rw [a1] at q
    by_cases z : f = e
    · rw [z, e1]; exact i10
    · rw [if_neg z] at q; exact q
  have b0' : ∀ {f}, ¬ V 1 f = 0 → ¬ V' 1 f = 0 := fun {f} q => by
    rw [a1]
    by_cases z : f = e
    · rw [if_pos z]; exact (by decide : ¬ (2 : Int32) = 0)
    · rw [if_neg z]; exact q
  refine ⟨hN', ⟨?_, ?_, ?_, ?_, ?_, ?_, ?_, ?_, ?_, ?_, ?_, ?_⟩, ⟨?_, by have := i.Z.tT; omega, h30, ?_, ?_, ?_⟩, ?_, ?_, ?_⟩
  · intro f hf
    rw [a1]
    by_cases z : f = e
    · rw [if_pos z]; exact Or.inr (Or.inr rfl)
    · rw [if_neg z]; exact hM.st f hf
  · rw [c9]; exact hM.r0
  · rw [c10]; exact hM.o0
  · intro v hv
    rw [c9, c10, c4, u5]
    rcases hM.rt v hv with q | ⟨q1, r, r64, q2, q3, q4, q5⟩
    · exact Or.inl q
    · have re : r ≠ e := fun z => e2m (by rw [← z]; exact q4)
      exact Or.inr ⟨q1, r, r64, q2, by rw [a1, if_neg re]; exact q3, by rw [a2, if_neg re]; exact q4, q5⟩
  · intro v h1 hv
    rw [c9, c10, c4]
    intro q
    obtain ⟨o, o64, w1, w2, w3, w4⟩ := hM.ov v h1 hv q
    have oe : o ≠ e := fun z => vc v hv (by rw [w1, z])
    refine ⟨o, o64, w1, by rw [a1, if_neg oe]; exact w2, by rw [a2, if_neg oe]; exact w3, ?_⟩
    exact fo_gone hN hN' u4 (nk o o64 (by rw [w2]; exact i10) oe) w4
  · rw [c10]; exact hM.oi
  · rw [c10, c4, u1]; exact hM.vr
  · intro f hf q1 q2
    obtain ⟨z, q1⟩ := b1 q1
    rw [a2, if_neg z] at q2
    rw [c9]
    exact hM.ro f hf q1 q2
  · intro f hf q1 q2
    obtain ⟨z, q1⟩ := b1 q1
    rw [a2, if_neg z] at q2
    rw [a2, if_neg z, c3, c4]
    obtain ⟨p, y1, y2, y3, y4, y5⟩ := hM.ch f hf q1 q2
    have pe : p ≠ e := fun z => ec f hf (by rw [q1]; exact i10) (by rw [y2, z])
    refine ⟨p, y1, y2, by rw [a1, if_neg pe]; exact y3, ?_, ?_⟩
    · exact fo_gone hN hN' u4 (nk p y1 (by rw [y3]; exact i10) pe) y4
    · rw [fd_gone hN hN' kn u4 uk (fneg y4), ← y5, if_neg (nk f hf (by rw [q1]; exact i10) z)]
  · intro f hf q1
    rw [a1] at q1
    rw [a2, c4]
    by_cases z : f = e
    · rw [if_pos z]
      exact ⟨rfl, k, kn, by rw [z]; exact e4, by rw [u4, if_pos rfl]⟩
    · rw [if_neg z] at q1
      rw [if_neg z]
      obtain ⟨b1, j, b2, b3, b4⟩ := hM.go f hf q1
      refine ⟨b1, j, b2, b3, ?_⟩
      rw [u4, b4, ite_self]
  · intro f g hf hg q1 q2 q3 q4 q5
    obtain ⟨z, q1⟩ := b1 q1
    obtain ⟨w, q2⟩ := b1 q2
    rw [a2, if_neg z] at q3
    rw [a2, a2, if_neg z, if_neg w] at q4
    rw [c3] at q5
    exact hM.sb f g hf hg q1 q2 q3 q4 q5
  · intro f g hf hg q1 q2
    rw [c4]
    exact hM.nd f g hf hg (b0 q1) (b0 q2)
  · rw [c0]; exact i.Z.tk
  · intro f hf q1
    rw [c8]
    exact i.Z.bi f hf (b0 q1)
  · intro f hf q1
    obtain ⟨c, d1, d2⟩ := i.Z.co f hf (b0 q1)
    rw [a6]
    by_cases z : f = e
    · rw [if_pos z, ← z, d1]
      exact ⟨c + 1, nI_1 c, by omega⟩
    · rw [if_neg z]
      exact ⟨c, d1, by omega⟩
  · exact ⟨by rw [c0]; exact i.Z.li, i.Z.tri.le (by rw [c0]) (fun k _ q => b0 q) (Nat.le_refl _)⟩
  · have hcc : ∀ f, f < 64 → hc V' H W f + (if f = p' then 1 else 0) = hc V H W f := by
      intro f hf
      have o := cnt_one (P := fun j => decide (¬ V 1 j = 0 ∧ V 2 j = nI f)) (P' := fun j => decide (¬ V' 1 j = 0 ∧ V' 2 j = nI f)) (e := e) (n := 64) (k := 0) (Nat.zero_le _) (by omega) (fun j _ _ z => by
        show decide _ = decide _
        rw [a1, a2, if_neg z, if_neg z])
      have x1 : decide (¬ V' 1 e = 0 ∧ V' 2 e = nI f) = false := by
        rw [a2, if_pos rfl]
        simp only [decide_eq_false_iff_not]
        exact fun z => nI_m1 (show f < 2 ^ 31 by omega) z.2.symm
      have x2 : decide (¬ V 1 e = 0 ∧ V 2 e = nI f) = decide (f = p') := by
        rw [e1, e2]
        by_cases z : f = p'
        · rw [z]; simp
        · have : ¬ nI p' = nI f := fun w => z ((nI_eq (by omega) (by omega)).mp w).symm
          simp [z, this]
      simp only [x1, x2, decide_eq_true_eq, Bool.false_eq_true, if_false] at o
      have hv : hcV V' f = hcV V f := by unfold hcV; rw [c10]
      have o' : hcC V' f + (if f = p' then 1 else 0) = hcC V f := by unfold hcC; omega
      unfold hc
      omega
    intro f hf
    obtain ⟨l1, l2, l3⟩ := i.L f hf
    have cc := hcc f hf
    refine ⟨fun _ => rfl, l2, fun q => ?_⟩
    obtain ⟨m1, m2⟩ := l3 (b0 q)
    rw [a5, a1]
    by_cases z : f = p'
    · have fe : f ≠ e := fun w => pe (by rw [← z, w])
      rw [if_pos z] at cc
      rw [if_pos z, ← z, m1, if_neg fe]
      refine ⟨?_, fun w => ?_⟩
      · have e1 : hc V' H W f = hc V H W f - 1 := by omega
        simp only [Nat.add_zero]
        rw [e1]
        exact nI_sub (b := 1) (by omega)
      · rw [z, p'3] at w
        exact absurd w (by decide)
    · rw [if_neg z] at cc
      rw [if_neg z, m1]
      have cc' : hc V' H W f = hc V H W f := by omega
      rw [cc']
      refine ⟨rfl, fun w => ?_⟩
      by_cases x : f = e
      · rw [x]; omega
      · rw [if_neg x] at w; exact m2 w
  · intro j hj
    rcases i.H j hj with z | ⟨f, f64, w1, w2, w3⟩
    · exact Or.inl z
    · exact Or.inr ⟨f, f64, w1, b0' w2, by rw [c4]; exact w3⟩
  · intro j hj q
    obtain ⟨m, d, l, r, hr, hw⟩ := i.W j hj q
    refine ⟨m, d, l, r, hr, hw.m, hw.d, hw.l, hw.r, hw.m1, hw.md, hw.dl, hw.l12, hw.r3, fun b hb => ?_⟩
    obtain ⟨f, f64, g1, ⟨b1, c1', g2, g3, g4, g5, g6⟩, g7⟩ := (hw.wy b hb).ex
    refine ⟨f, f64, g1, ⟨b1, c1', g2, g3, g4, by omega, ?_⟩, ?_⟩
    · intro q1 q2
      rw [c8] at q2
      obtain ⟨c2', x1, x2, x3, x4⟩ := g6 (b0 q1) q2
      rw [a6, a1, c4]
      by_cases z : f = e
      · rw [if_pos z, if_pos z, ← z, x1]
        exact ⟨c2' + 1, nI_1 c2', by omega, by omega, fun w => by omega⟩
      · rw [if_neg z, if_neg z]
        exact ⟨c2', x1, x2, by omega, x4⟩
    · intro q1
      have y := g7 q1
      exact ⟨b0' y.1, by rw [c4]; exact y.2⟩
end

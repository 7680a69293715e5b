/-! A walker that quits, on both sides. -/
theorem Inv.stop {U : NodV} {V : MemV} {H : OneV} {W W' : WkV} {n vol t T : Nat} (i : Inv U V H W n vol t T (fun _ => 0)) {k : Nat} (hk : k < 4) (uw : ¬ bz ((W k).1 0 5) = 0) (w1 : ∀ j, j ≠ k → W' j = W j) (w0 : bz ((W' k).1 0 5) = 0) : Inv U (gV_X7_letGo (W k).1 (W k).2.2 V) H W' n vol t T (fun _ => 0) ∧ (∀ f, f < 64 → gV_X7_letGo (W k).1 (W k).2.2 V 1 f = if V 1 f = 2 ∧ hc V H W' f = 0 then 0 else V 1 f) ∧ ∀ q : Fin 12, q ≠ 1 → q ≠ 5 → gV_X7_letGo (W k).1 (W k).2.2 V q = V q := by
  have i1 := i.wsub hk w1 w0
  show Inv U (lp_X7_letGo_2 (W k).1 (W k).2.2 25 0 V) H W' n vol t T (fun _ => 0) ∧ (∀ f, f < 64 → lp_X7_letGo_2 (W k).1 (W k).2.2 25 0 V 1 f = if V 1 f = 2 ∧ hc V H W' f = 0 then 0 else V 1 f) ∧ ∀ q : Fin 12, q ≠ 1 → q ≠ 5 → lp_X7_letGo_2 (W k).1 (W k).2.2 25 0 V q = V q
  by_cases hv : bz ((W k).1 0 6) = 0
  · have i0 : Inv U V H W' n vol t T (fun _ => 0) := i1.xcg (fun f _ => by
      show 0 = hcK (W k) f
      unfold hcK
      rw [if_pos (Or.inr hv)])
    have e : lp_X7_letGo_2 (W k).1 (W k).2.2 25 0 V = V := if_pos hv
    rw [e]
    refine ⟨i0, fun f hf => ?_, fun _ _ _ => rfl⟩
    rw [if_neg]
    rintro ⟨y1, y2⟩
    have := ((i0.L f hf).2.2 (by rw [y1]; exact i20)).2 y1
    simp only [Nat.add_zero] at this
    omega
  · obtain ⟨m, d, l, r, hr, hw⟩ := i.W k hk uw
    have q1 := hw.md
    have q2 := hw.dl
    have q3 := hw.l12
    refine letGo_loop hv hw.m (by omega) (fun j hj => ?_) 25 0 V (by omega) (by omega) (i1.xcg (fun f _ => ?_))
    · obtain ⟨e, e64, g1, _⟩ := (hw.wy j hj).ex
      exact ⟨e, e64, g1⟩
    · show cnt (fun j => decide ((W k).2.2 0 j = nI f)) 0 (m - 0) = hcK (W k) f
      unfold hcK
      rw [if_neg (fun z => z.elim uw hv), hw.m, ix_nI (by omega)]
      rfl
theorem Rel.wsub {U : NodV} {V : MemV} {H : OneV} {W W' : WkV} {D : RowV} {n : Nat} (r : Rel none U V H W D n) (n60 : n ≤ 60) {k : Nat} (hk : k < 4) (w1 : ∀ j, j ≠ k → W' j = W j) (w0 : bz ((W' k).1 0 5) = 0) : Rel none U V H W' (sD D (17 + 96 * k + 0) 0) n := by
  have o : ∀ j, j ≠ 17 + 96 * k + 0 → sD D (17 + 96 * k + 0) 0 j = D j := fun j q => sD_n _ _ q
  have b := r.B
  refine ⟨⟨?_, ?_, ?_, ?_, ?_, ?_, ?_, ?_, ?_, ?_, ?_⟩, ?_, ?_, fun k z => by cases z⟩
  · rw [o _ (by omega)]; exact b.tk
  · rw [o _ (by omega)]; exact b.lo
  · rw [o _ (by omega)]; exact b.tr
  · rw [o _ (by omega)]; exact b.rm
  · rw [o _ (by omega)]; exact b.ev
  · intro v hv
    rw [o _ (by omega)]; exact b.rt v hv
  · intro v hv
    rw [o _ (by omega)]; exact b.ov v hv
  · intro j hj
    rw [o _ (by omega)]; exact b.ha j hj
  · intro j hj
    rw [o _ (by omega), o _ (by omega), o _ (by omega), o _ (by omega), o _ (by omega)]; exact b.nd j hj
  · intro f hf
    rw [o _ (by omega)]; exact b.th f hf
  · intro f hf q
    rw [o _ (by omega), o _ (by omega), o _ (by omega), o _ (by omega), o _ (by omega), o _ (by omega), o _ (by omega), o _ (by omega)]; exact b.en f hf q
  · intro j hj
    by_cases z : j = k
    · subst z
      exact ⟨by rw [sD_s, w0], fun q => absurd w0 q, fun q => absurd w0 q, fun q => absurd w0 q⟩
    · rw [w1 j z]
      obtain ⟨c1, c2, c3, c4⟩ := r.K j hj
      refine ⟨by rw [o _ (by omega)]; exact c1, fun q => ?_, fun q i hi h2 => ?_, fun q i hi h2 => ?_⟩
      · rw [o _ (by omega), o _ (by omega), o _ (by omega), o _ (by omega)]; exact c2 q
      · rw [o _ (by omega)]; exact c3 q i hi h2
      · rw [o _ (by omega), o _ (by omega), o _ (by omega)]; exact c4 q i hi h2
  · intro j hj q q2
    have z : j ≠ k := fun z => q (by rw [z]; exact w0)
    rw [w1 j z] at q ⊢
    exact ⟨by rw [o _ (by omega)]; exact r.M j hj q q2, r.R2 j hj q q2⟩
theorem P_quit {I : MI} {J : MJ} {T B0 : Nat} (h : St I J T B0) (h30 : T + 10001 ≤ 1000000000) (x : Int32) : Pair I J T B0 (M_X9_quit [mR (some 0), mI x]) (M_X10_quit [mR (some 188), mI x]) := by
  have refs : ∀ Y : MI, M_X10_isWalker [mR (some 188), mI x] (Y, J) = some (some (mI 0), (Y, J)) → M_X10_quit [mR (some 188), mI x] (Y, J) = some (some (mI 0), (rfR Y 5, J)) := fun Y hc => by
    rw [E_X10_quit]
    simp only [h.1.2.kt, if_true, hc, Option.bind_some, asI_I, w_isRefused h.1.2 Y (show (5 : Int32) = nI 5 from rfl) (by decide)]
    simp
  rcases h.2.2.2.2.2.2.2.2.2 with td | u
  · have td' := td
    obtain ⟨vol0, ad, p, q, _, td13, ⟨nn0, tt0, _, _, r0⟩, _⟩ := td'
    rcases w_isWalker h.1.2 td13 r0 (rfz I 5) (by rw [rfz_o _ _ (by decide)]) (by rw [rfz_o _ _ (by decide)]) x with ⟨a1, a2⟩ | ⟨k, k4, xk, a1, a3, _⟩
    · exact Pair.no h h30 (k := 5) (by decide) (u_quit_no h.1.1 I x a1) (refs _ a2)
    · obtain ⟨vol, nn, t, X, J1, hv, i, c, r, k1, kl, rl, ⟨e1, e2, e3, e4, _⟩, xo, j6, _, rest⟩ := act_pre0 h h30 td
      have uE := u_quit h.1.1 I x a1 k4 k1 kl
      have vK : vw 1 X (31 + 6 * k) = (wks I 31 k).1 := vw_fr (fun y p q => e4 y (by omega) (by omega))
      have vB : vw 3 X (31 + 6 * k + 3) = (wks I 31 k).2.2 := vw_fr (fun y p q => e4 y (by omega) (by omega))
      have sE : stpI X (31 + 6 * k) = pt (pt X (31 + 6 * k) (uv (uv (wks I 31 k).1 0 5 0) 0 4 0)) 17 (gV_X7_letGo (wks I 31 k).1 (wks I 31 k).2.2 (vw 12 I 17)) := by
        unfold stpI gK_X7_stop gV_X7_stop
        rw [vK, vB, e2]
      rw [sE] at uE
      have w1 : ∀ j, j ≠ k → (fun j => if j = k then (uv (uv (wks I 31 k).1 0 5 0) 0 4 0, (wks I 31 k).2.1, (wks I 31 k).2.2) else wks I 31 j : WkV) j = wks I 31 j := fun j z => if_neg z
      have w0 : bz (((fun j => if j = k then (uv (uv (wks I 31 k).1 0 5 0) 0 4 0, (wks I 31 k).2.1, (wks I 31 k).2.2) else wks I 31 j : WkV) k).1 0 5) = 0 := by
        show bz ((if k = k then (uv (uv (wks I 31 k).1 0 5 0) 0 4 0, (wks I 31 k).2.1, (wks I 31 k).2.2) else wks I 31 k).1 0 5) = 0
        rw [if_pos rfl]
        simp [uv, bz]
      have wk : (fun j => if j = k then (uv (uv (wks I 31 k).1 0 5 0) 0 4 0, (wks I 31 k).2.1, (wks I 31 k).2.2) else wks I 31 j : WkV) k = (uv (uv (wks I 31 k).1 0 5 0) 0 4 0, (wks I 31 k).2.1, (wks I 31 k).2.2) := if_pos rfl
      generalize (fun j => if j = k then (uv (uv (wks I 31 k).1 0 5 0) 0 4 0, (wks I 31 k).2.1, (wks I 31 k).2.2) else wks I 31 j : WkV) = W' at w1 w0 wk
      have ip := i.T (show T ≤ T + 10001 by omega) h30
      obtain ⟨i2, v1, kV⟩ := ip.stop k4 a3 w1 w0
      have i1 := ip.wsub k4 w1 w0
      have r1 := r.wsub i.N.n60 k4 w1 w0
      generalize gV_X7_letGo (wks I 31 k).1 (wks I 31 k).2.2 (vw 12 I 17) = V' at uE i2 v1 kV
      generalize hK' : uv (uv (wks I 31 k).1 0 5 0) 0 4 0 = K' at uE wk
      have oX : ∀ y, y < 17 ∨ (29 ≤ y ∧ y ≠ 31 + 6 * k) → pt (pt X (31 + 6 * k) K') 17 V' y = X y := fun y q => by rw [pt_out (by omega), pt_out (by omega)]
      obtain ⟨Z, z1, zf, zo, zk, fin⟩ := rest (pt (pt X (31 + 6 * k) K') 17 V') (fun y q _ _ => oX y (by omega)) (by rw [oX 0 (by omega), xo 0 (by decide) (by decide)])
      have lo : ∀ y, 188 ≤ y → y < 208 → pt (pt X (31 + 6 * k) K') 17 V' y = I y := fun y p q => by rw [oX y (by omega), xo y (by omega) (by omega)]
      obtain ⟨D', G', s1, s2⟩ := r1.sweeps i1 rl Z zf.2.1 (Z 195) (Z 188 22) (V' := V') (fun q _ p1 p5 _ => kV q p1 p5) ⟨by rw [kV 0 (by decide) (by decide)], by rw [kV 0 (by decide) (by decide)], by rw [kV 0 (by decide) (by decide)], by rw [kV 0 (by decide) (by decide)]⟩ v1
      have isw : M_X10_isWalker [mR (some 188), mI x] (pt (pt X (31 + 6 * k) K') 17 V', J1) = some (some (mI 1), (pt (pt X (31 + 6 * k) K') 17 V', J1)) := by
        rcases w_isWalker rl td13 r0 (pt (pt X (31 + 6 * k) K') 17 V') (by rw [lo 188 (by decide) (by decide)]) (lo 194 (by decide) (by decide)) x with ⟨b1, _⟩ | ⟨_, _, _, _, _, b2⟩
        · rw [a1] at b1; cases b1
        · exact b2
      refine ⟨1, _, rF Z D' G' (Z 188 22), J1, uE, ?_, ?_⟩
      · rw [E_X10_quit]
        have wa := fun s => w_walkerAt s k 0 (show (0 : Int32) = nI 0 from rfl)
        rw [← xk] at wa
        simp only [rl.kt, if_true, isw, Option.bind_some, asI_I, if_neg i10, z1, asV_n, rl.f18, wa, rl.stD _ _ (show nI (17 + 96 * k + 0) = nI (17 + 96 * k + 0) from rfl) (show 17 + 96 * k + 0 < 1853 by omega)]
        have eD : up2 Z 194 (17 + 96 * k + 0) 0 = rF Z (sD (I 194) (17 + 96 * k + 0) 0) (Z 195) (Z 188 22) := by
          have := rF_sD Z (Z 194) (Z 195) (Z 188 22) (17 + 96 * k + 0) 0
          rw [rF_id, zf.1] at this
          exact this
        rw [eD, s1]
        simp [asV]
      · refine fin0 fin zf zk (by rw [zo 201 (by decide) (by decide), lo 201 (by decide) (by decide)]) h.2.2.2.1 h.2.2.2.2.2.1 j6 (by rw [oX 186 (by omega), xo 186 (by decide) (by decide)]) (by rw [oX 0 (by omega), xo 0 (by decide) (by decide)]) (by rw [oX 187 (by omega), xo 187 (by decide) (by decide)]) ⟨?_, vw_pt _ _ _, ?_, fun j hj => ?_⟩ i2 (c.sub (fun f hf q => ?_) (kV 9 (by decide) (by decide))) s2
        · rw [← e1]; exact vw_fr (fun y _ _ => oX y (by omega))
        · rw [← e3]; exact vw_fr (fun y _ _ => oX y (by omega))
        · by_cases z : j = k
          · subst z
            rw [wk]
            have x1 : vw 1 (pt (pt X (31 + 6 * j) K') 17 V') (31 + 6 * j) = K' := by
              rw [vw_out _ _ (by omega), vw_pt]
            have x2 : vw 2 (pt (pt X (31 + 6 * j) K') 17 V') (31 + 6 * j + 1) = (wks I 31 j).2.1 := vw_fr (fun y p q => by rw [oX y (by omega), e4 y (by omega) (by omega)])
            have x3 : vw 3 (pt (pt X (31 + 6 * j) K') 17 V') (31 + 6 * j + 3) = (wks I 31 j).2.2 := vw_fr (fun y p q => by rw [oX y (by omega), e4 y (by omega) (by omega)])
            show WkEq (vw 1 (pt (pt X (31 + 6 * j) K') 17 V') (31 + 6 * j), vw 2 (pt (pt X (31 + 6 * j) K') 17 V') (31 + 6 * j + 1), vw 3 (pt (pt X (31 + 6 * j) K') 17 V') (31 + 6 * j + 3)) _
            rw [x1, x2, x3]
            exact WkEq.refl _
          · rw [w1 j z]
            have x1 : vw 1 (pt (pt X (31 + 6 * k) K') 17 V') (31 + 6 * j) = (wks I 31 j).1 := vw_fr (fun y p q => by rw [oX y (by omega), e4 y (by omega) (by omega)])
            have x2 : vw 2 (pt (pt X (31 + 6 * k) K') 17 V') (31 + 6 * j + 1) = (wks I 31 j).2.1 := vw_fr (fun y p q => by rw [oX y (by omega), e4 y (by omega) (by omega)])
            have x3 : vw 3 (pt (pt X (31 + 6 * k) K') 17 V') (31 + 6 * j + 3) = (wks I 31 j).2.2 := vw_fr (fun y p q => by rw [oX y (by omega), e4 y (by omega) (by omega)])
            show WkEq (vw 1 (pt (pt X (31 + 6 * k) K') 17 V') (31 + 6 * j), vw 2 (pt (pt X (31 + 6 * k) K') 17 V') (31 + 6 * j + 1), vw 3 (pt (pt X (31 + 6 * k) K') 17 V') (31 + 6 * j + 3)) _
            rw [x1, x2, x3]
            exact WkEq.refl _
        · rw [v1 f hf] at q
          by_cases y : vw 12 I 17 1 f = 2 ∧ hc (vw 12 I 17) (vw 1 I 29) W' f = 0
          · rw [if_pos y] at q; exact absurd rfl q
          · rw [if_neg y] at q; exact q
  · have wn : q_X8_walkerAt I 31 x = none := by
      unfold q_X8_walkerAt
      by_cases a : x < 0
      · rw [if_pos a]
      · rw [if_neg a]
        by_cases b : (4 : Int32) ≤ x
        · rw [if_pos b]
        · rw [if_neg b, if_pos]
          have l4 : ix x < 4 := by
            rcases Nat.lt_or_ge (ix x) 4 with z | z
            · exact z
            · exact absurd (by rw [nI_ix a]; exact nI_le (a := 4) z (ix_lt x)) b
          exact u.2.2.1.2.2.2.2.2.2 (ix x) l4
    refine Pair.no h h30 (k := 5) (by decide) (u_quit_no h.1.1 I x wn) (refs _ ?_)
    have u13 : bz (rfz I 5 188 13) = 0 := by rw [rfz_o _ _ (by decide)]; exact u.2.1
    rw [E_X10_isWalker]
    simp [h.1.2.fz, u13]

/-! Handles closed and opened, on both sides. -/
theorem Inv.release0 {U : NodV} {V : MemV} {H : OneV} {W : WkV} {n vol t T : Nat} {e : Nat} (i : Inv U V H W n vol t T (dlx (fun _ => 0) e)) (he : e < 64) (h1 : ¬ V 1 e = 0) : Inv U (gV_X1_release V (nI e)) H W n vol t T (fun _ => 0) ∧ ∀ f, gV_X1_release V (nI e) 1 f = if f = e ∧ V 1 e = 2 ∧ hc V H W e = 0 then 0 else V 1 f := by
  obtain ⟨a, b⟩ := i.release he h1
  refine ⟨a, fun f => ?_⟩
  rw [b f]
  generalize hc V H W e = z
  by_cases y : f = e ∧ V 1 e = 2 ∧ z = 0
  · rw [if_pos y, if_pos ⟨y.1, y.2.1, y.2.2⟩]
  · rw [if_neg y, if_neg (fun w => y ⟨w.1, w.2.1, w.2.2⟩)]
theorem P_close {I : MI} {J : MJ} {T B0 : Nat} (h : St I J T B0) (h30 : T + 10001 ≤ 1000000000) (x : Int32) : Pair I J T B0 (M_X9_close [mR (some 0), mI x]) (M_X10_close [mR (some 188), mI x]) := by
  have refs : ∀ Y : MI, (if bz (Y 188 13) = 0 then -1 else if x < 0 then -1 else if 5 < x then -1 else Y 194 (11 + ix x)) = -1 → M_X10_close [mR (some 188), mI x] (Y, J) = some (some (mI 0), (rfR Y 4, J)) := fun Y hc => by
    rw [E_X10_close]
    simp only [h.1.2.kt, if_true, w_handle h.1.2, Option.bind_some, asI_I, hc, w_isRefused h.1.2 Y (show (4 : Int32) = nI 4 from rfl) (by decide)]
    simp
  by_cases hn : q_X8_handleAt (vw 1 I 16) (vw 1 I 29) x = -1
  · refine Pair.no h h30 (k := 4) (by decide) (u_close_no h.1.1 I x hn) (refs _ ?_)
    rw [rfz_o _ _ (by decide), rfz_o _ _ (by decide)]
    unfold q_X8_handleAt at hn
    by_cases z : bz (I 188 13) = 0
    · rw [if_pos z]
    · rw [if_neg z]
      by_cases a : x < 0
      · rw [if_pos a]
      · rw [if_neg a]
        by_cases b : (6 : Int32) ≤ x
        · rw [if_pos (five.mpr b)]
        · rw [if_neg (fun w => b (five.mp w))]
          rw [if_neg a, if_neg b] at hn
          rcases h.2.2.2.2.2.2.2.2.2 with ⟨vol, ad, p, q, _, _, ⟨nn, t, _, _, r⟩, _⟩ | u
          · rw [r.B.ha _ (lt6 a b)]; exact hn
          · exact absurd u.2.1 z
  · have hn' := hn
    unfold q_X8_handleAt at hn'
    have a : ¬ x < 0 := fun z => hn' (by rw [if_pos z])
    have b : ¬ (6 : Int32) ≤ x := fun z => hn' (by rw [if_neg a, if_pos z])
    rw [if_neg a, if_neg b] at hn'
    have k6 := lt6 a b
    have xn : x = nI (ix x) := nI_ix a
    rcases h.2.2.2.2.2.2.2.2.2 with td | u
    · obtain ⟨vol, nn, t, X, J1, hv, i, c, r, k1, kl, rl, ⟨e1, e2, e3, e4, _⟩, xo, j6, _, rest⟩ := act_pre0 h h30 td
      have uE := u_close h.1.1 I x hn k1 kl
      unfold gH_X8_closeHandle gV_X8_closeHandle at uE
      rw [if_neg a, if_neg b, if_neg a, if_neg b, e2, e3] at uE
      rcases i.H (ix x) k6 with z | ⟨e, e64, ee, ee1, ee4⟩
      · exact absurd z hn'
      · rw [ee] at uE
        generalize hk : ix x = k at uE k6 ee
        have i1 := (i.hsub e64 ee1 k6 ee (by decide)).T (show T ≤ T + 10001 by omega) h30
        obtain ⟨i2, v1⟩ := i1.release0 e64 ee1
        have r1 := r.hset k6 (-1) i.N.n60
        generalize hH' : uv (vw 1 I 29) 0 k (-1) = H' at uE i1 i2 v1 r1
        generalize hV' : gV_X1_release (vw 12 I 17) (nI e) = V' at uE i2 v1
        have oX : ∀ y, y < 17 ∨ 30 ≤ y → pt (pt X 29 H') 17 V' y = X y := fun y q => by rw [pt_out (by omega), pt_out (by omega)]
        obtain ⟨Z, z1, zf, zo, zk, fin⟩ := rest (pt (pt X 29 H') 17 V') (fun y q _ _ => oX y (by omega)) (by rw [oX 0 (by decide), xo 0 (by decide) (by decide)])
        have lo : ∀ y, 188 ≤ y → y < 208 → pt (pt X 29 H') 17 V' y = I y := fun y p q => by rw [oX y (by omega), xo y (by omega) (by omega)]
        have kV : ∀ q : Fin 12, q ≠ 1 → q ≠ 5 → V' q = vw 12 I 17 q := fun q p1 p5 => by rw [← hV']; exact re_k _ _ q p1 p5
        obtain ⟨D', G', s1, s2⟩ := r1.sweeps i1 rl Z zf.2.1 (Z 195) (Z 188 22) (V' := V') (fun q _ p1 p5 _ => kV q p1 p5) ⟨by rw [kV 0 (by decide) (by decide)], by rw [kV 0 (by decide) (by decide)], by rw [kV 0 (by decide) (by decide)], by rw [kV 0 (by decide) (by decide)]⟩ (fun f hf => by
          rw [v1 f]
          by_cases w : f = e
          · subst w
            by_cases y : vw 12 I 17 1 f = 2 ∧ hc (vw 12 I 17) H' (wks I 31) f = 0
            · rw [if_pos y, if_pos ⟨rfl, y.1, y.2⟩]
            · rw [if_neg y, if_neg (fun u => y ⟨u.2.1, u.2.2⟩)]
          · rw [if_neg (fun u => w u.1), if_neg]
            rintro ⟨y1, y2⟩
            have := ((i1.L f hf).2.2 (by rw [y1]; exact i20)).2 y1
            have dz : dlx (fun _ => 0) e f = 0 := by unfold dlx; rw [if_neg w]
            rw [dz, y2] at this
            omega)
        have t13 : ¬ bz (I 188 13) = 0 := by rw [← zk 13 (by decide) (by decide)]; exact zf.2.2.2.2.2.2.2
        have hdl : (if bz (I 188 13) = 0 then -1 else if x < 0 then -1 else if 5 < x then -1 else I 194 (11 + ix x)) = nI e := by
          rw [if_neg t13, if_neg a, if_neg (fun w => b (five.mp w)), hk, r.B.ha _ k6, ee]
        refine ⟨1, _, rF Z D' G' (Z 188 22), J1, uE, ?_, ?_⟩
        · rw [E_X10_close]
          have wh := w_handle rl (pt (pt X 29 H') 17 V') x
          rw [lo 188 (by decide) (by decide), lo 194 (by decide) (by decide), hdl] at wh
          have e11 : (11 : Int32) + x = nI (11 + k) := by
            rw [xn, hk]
            exact nI_add 11 k
          simp only [rl.kt, if_true, wh, Option.bind_some, asI_I, if_neg (nI_m1 (show e < 2 ^ 31 by omega)), z1, asV_n, rl.f18, rl.stD _ _ e11 (show 11 + k < 1853 by omega)]
          have eD : up2 Z 194 (11 + k) (-1) = rF Z (sD (I 194) (11 + k) (-1)) (Z 195) (Z 188 22) := by
            have := rF_sD Z (Z 194) (Z 195) (Z 188 22) (11 + k) (-1)
            rw [rF_id, zf.1] at this
            exact this
          rw [eD, s1]
          simp [asV]
        · refine fin0 fin zf zk (by rw [zo 201 (by decide) (by decide), lo 201 (by decide) (by decide)]) h.2.2.2.1 h.2.2.2.2.2.1 j6 (by rw [oX 186 (by decide), xo 186 (by decide) (by decide)]) (by rw [oX 0 (by decide), xo 0 (by decide) (by decide)]) (by rw [oX 187 (by decide), xo 187 (by decide) (by decide)]) ⟨?_, vw_pt _ _ _, ?_, fun j hj => ?_⟩ i2 (c.sub (fun f hf q => ?_) (kV 9 (by decide) (by decide))) s2
          · rw [← e1]; exact vw_fr (fun y _ _ => oX y (by omega))
          · rw [vw_out _ _ (by decide), vw_pt]
          · rw [wks_fr (I := I) (fun y p q => by rw [oX y (by omega), e4 y p (by omega)]) hj]; exact WkEq.refl _
          · rw [v1 f] at q
            by_cases w : f = e ∧ vw 12 I 17 1 e = 2 ∧ hc (vw 12 I 17) H' (wks I 31) e = 0
            · rw [if_pos w] at q; exact absurd rfl q
            · rw [if_neg w] at q; exact q
    · exact absurd (u.2.2.1.2.2.2.2.2.1 _ k6) hn'
/-- both refuse behind a path -/
theorem St.prf {I : MI} {J : MJ} {T B0 n k p' l' : Nat} {S' : RowV} (h : St I J T B0) (h30 : T + 10001 ≤ 1000000000) (hk : k < 6) : St (rfR (pF (bgP (rfz (tkn I n) k) n) (nI p') (nI l') S') k) J (T + 10001) B0 := by
  have o : ∀ x, x ≠ 7 → (x < 158 ∨ 183 ≤ x) → x ≠ 186 → rfz (tkn I n) k x = I x := fun x p q r => by rw [rfz_o _ _ r, tkn_o _ _ p q]
  have po : ∀ x, x ≠ 188 → x ≠ 192 → pF (bgP (rfz (tkn I n) k) n) (nI p') (nI l') S' x = rfz (tkn I n) k x := fun x p q => by rw [pF_o _ _ _ _ p q, bgP_o _ _ p]
  have pk : ∀ j, j ≠ 1 → j ≠ 2 → j ≠ 3 → j ≠ 15 → pF (bgP (rfz (tkn I n) k) n) (nI p') (nI l') S' 188 j = I 188 j := fun j a b c d => by rw [pF_k _ _ _ _ b d, bgP_k _ _ a b c, o 188 (by decide) (by decide) (by decide)]
  refine h.tk h30 (h.2.2.2.1.rf hk (po 186 (by decide) (by decide)) (by rw [po 190 (by decide) (by decide), o 190 (by decide) (by decide) (by decide)])) (fun x a1 a2 a3 a4 a5 a6 _ _ _ => ?_) (fun j b1 b2 b3 b4 _ _ => ?_) ?_ ?_
  · rw [rfR_o _ _ a5, po x a4 a6, o x a1 a2 a3]
  · rw [rfR_o _ _ (by decide)]
    exact pk j b1 b2 b3 b4
  · rw [rfR_o _ _ (by decide), po 7 (by decide) (by decide), rfz_o _ _ (by decide)]
    exact tkn_7 I n
  · rw [rfR_o _ _ (by decide), pF_k _ _ _ _ (by decide) (by decide)]
    exact (bgP_3 _ _).2.1
/-- refused behind a good path, by what there is -/
theorem Pair.path_full {I : MI} {J : MJ} {T B0 n : Nat} (h : St I J T B0) (h30 : T + 10001 ≤ 1000000000) (td : Told I J T B0) (t1 : Tap (vw 2 I 7) n) (t2 : I 188 1 = nI n) (t3 : ∀ k, k < n → I 189 k = I 8 k) (hy : (rowO I n).1 = 1) {k : Nat} (hk : k < 6) {f g : MH → Option MO} (hf : f (I, J) = some (some (mI (-1)), (rfz (tkn I n) k, J))) (hg : ∀ X X1, M_X10_isPath [mR (some 188)] (X, J) = some (some (mI 1), (X1, J)) → X1 194 = I 194 → (∀ k, k ≠ 1 → k ≠ 2 → k ≠ 3 → k ≠ 15 → X1 188 k = I 188 k) → g (X, J) = some (some (mI (-1)), (rfR X1 k, J))) : Pair I J T B0 f g := by
  have o : ∀ x, x ≠ 7 → (x < 158 ∨ 183 ≤ x) → x ≠ 186 → rfz (tkn I n) k x = I x := fun x p q r => by rw [rfz_o _ _ r, tkn_o _ _ p q]
  obtain ⟨y, p', l', S', g1, g2⟩ := path1 (Y := rfz (tkn I n) k) h.1.2 t1 (by rw [o 188 (by decide) (by decide) (by decide)]; exact t2) (fun j hj => by rw [o 189 (by decide) (by decide) (by decide)]; exact t3 j hj)
  obtain ⟨vol, ad, p, q, _, _, ⟨nn, t, i, _⟩, _⟩ := td
  rcases g2 (Told.h6 i) with ⟨_, z, _⟩ | ⟨z, _⟩
  · subst z
    refine ⟨-1, _, _, J, hf, hg _ _ g1 ?_ (fun j a b c d => ?_), h.prf h30 hk⟩
    · rw [pF_o _ _ _ _ (by decide) (by decide), bgP_o _ _ (by decide), o 194 (by decide) (by decide) (by decide)]
    · rw [pF_k _ _ _ _ b d, bgP_k _ _ a b c, o 188 (by decide) (by decide) (by decide)]
  · exact absurd hy z
theorem w_handleMany {J : MJ} (h : RefL J) (I : MI) : M_X10_handleMany [mR (some 188)] (I, J) = some (some (mI (nI (cnt (fun k => decide (¬ I 194 (11 + k) = -1)) 0 6))), (I, J)) := by
  rw [E_X10_handleMany]
  have step := loop_cnt (fun k c => Ev T_X10_handleMany 4 [some (mR (some 188)), some (mI (nI c)), some (mI (nI k))] [] (I, J)) (fun k => decide (¬ I 194 (11 + k) = -1)) 6 (fun k c hk => by
    try dsimp only
    have e11 : (11 : Int32) + nI k = nI (11 + k) := nI_add 11 k
    rw [E_X10_handleMany_4, if_neg (show ¬ (6 : Int32) ≤ nI k from nI_ge hk (by decide))]
    simp only [h.f18, Option.bind_some, h.ldD _ e11 (show 11 + k < 1853 by omega), w_flag, asI_I, nI_1]
    by_cases a : I 194 (11 + k) = -1
    · simp [a]
    · simp [a, nI_1]) 6 0 0 (by omega)
  try dsimp only at step
  rw [show (nI 0) = 0 from rfl] at step
  rw [step, E_X10_handleMany_4, if_pos (show (6 : Int32) ≤ nI 6 by decide), Nat.zero_add]
theorem Rfs.opn : Rfs (M_X10_open [mR (some 188)]) 4 := by
  intro J X X1 y h hp hc
  rw [E_X10_open]
  simp only [h.kt, if_true, hp, Option.bind_some, asI_I, h.fz, w_refuses h _ (show (4 : Int32) = nI 4 from rfl) (by decide)]
  rcases hc with z | ⟨z1, z2⟩
  · rw [if_pos z]
  · rw [if_neg z1, if_pos z2]
theorem cnt_all6 {P : Nat → Bool} : cnt P 0 6 = 6 ↔ ∀ k, k < 6 → P k = true := by
  constructor
  · intro q k hk
    cases z : P k with
    | true => rfl
    | false =>
      have one := cnt_one (P := P) (P' := fun i => if i = k then true else P i) (e := k) (n := 6) (k := 0) (Nat.zero_le _) (by omega) (fun i _ _ w => by rw [if_neg w])
      have := cnt_le (fun i => if i = k then true else P i) 6 0
      have e0 : (if P k = true then 1 else 0) = 0 := by rw [z]; rfl
      have e1 : (if (if k = k then true else P k) = true then 1 else 0) = 1 := by rw [if_pos rfl]; rfl
      rw [e0, e1] at one
      omega
  · intro q
    have : cnt P 0 6 = cnt (fun _ => true) 0 6 := cnt_cong (fun k _ hk => q k (by omega))
    rw [this]
    decide
theorem Rel.r5 {U : NodV} {V V' : MemV} {H : OneV} {W : WkV} {D : RowV} {n : Nat} (r : Rel none U V H W D n) (k : ∀ q : Fin 12, q ≠ 0 → q ≠ 5 → q ≠ 11 → V' q = V q) (k0 : V' 0 11 = V 0 11 ∧ V' 0 12 = V 0 12 ∧ V' 0 13 = V 0 13 ∧ V' 0 14 = V 0 14) : Rel none U V' H W D n :=
  r.fr (r.B.fr k k0) (fun _ _ _ => rfl) (fun _ z => by cases z)
theorem P_open {I : MI} {J : MJ} {T B0 : Nat} (h : St I J T B0) (h30 : T + 10001 ≤ 1000000000) : Pair I J T B0 (M_X9_open [mR (some 0)]) (M_X10_open [mR (some 188)]) := by
  obtain ⟨n, t1, t2, t3⟩ := h.2.1
  have T4 := t1.1
  have w29 : vw 1 (tkn I n) 29 = vw 1 I 29 := vw_fr (fun x _ _ => tkn_o I n (by omega) (by omega))
  by_cases hy : (rowO I n).1 = 1
  · rcases h.2.2.2.2.2.2.2.2.2 with td | u
    · obtain ⟨vol, nn, t, X, J1, hv, i, c, r, k1, kl, rl, ⟨e1, e2, e3, e4, e16⟩, x186, rest⟩ := act_pre (n := n) h h30 td t1 t2 t3 hy
      cases hf : f_X8_freeHandle (vw 1 I 16) (vw 1 I 29) with
      | none =>
        have full : q_X8_freeHandle (vw 1 (tkn I n) 16) (vw 1 (tkn I n) 29) = -1 := by
          show oI (f_X8_freeHandle (vw 1 (tkn I n) 16) (vw 1 (tkn I n) 29)) = -1
          rw [w29]
          show oI (f_X8_freeHandle (vw 1 I 16) (vw 1 I 29)) = -1
          rw [hf]
          rfl
        refine Pair.path_full h h30 td t1 t2 t3 hy (k := 4) (by decide) (u_open_full h.1.1 I T4 t1.2.1 hy full) (fun Y Y1 y1 y2 y3 => ?_)
        have all : cnt (fun k => decide (¬ Y1 194 (11 + k) = -1)) 0 6 = 6 := by
          rw [cnt_all6]
          intro k hk
          rw [y2, r.B.ha k hk]
          have := fst_none hf k (Nat.zero_le _) (by omega)
          simp only [decide_eq_true_eq]
          intro z
          rw [if_pos z] at this
          cases this
        have t13 : ¬ bz (Y1 188 13) = 0 := by
          rw [y3 13 (by decide) (by decide) (by decide) (by decide)]
          obtain ⟨_, _, _, _, _, z, _⟩ := td
          exact z
        rw [E_X10_open]
        simp only [h.1.2.kt, if_true, y1, Option.bind_some, asI_I, if_neg i10, h.1.2.fz, if_neg t13, w_handleMany h.1.2, all]
        rw [if_pos (show nI 6 = 6 from rfl), w_refuses h.1.2 _ (show (4 : Int32) = nI 4 from rfl) (by decide)]
        rfl
      | some k =>
        obtain ⟨_, k6, kq, kmin⟩ := fst_some hf
        have k6 : k < 6 := by omega
        have hk1 : vw 1 I 29 0 k = -1 := by
          by_cases z : vw 1 I 29 0 k = -1
          · exact z
          · rw [if_neg z] at kq; cases kq
        have fq : q_X8_freeHandle (vw 1 X 16) (vw 1 I 29) = nI k := by
          show oI (f_X8_freeHandle (vw 1 I 16) (vw 1 I 29)) = nI k
          rw [hf]
          rfl
        have nf : ¬ q_X8_freeHandle (vw 1 (tkn I n) 16) (vw 1 (tkn I n) 29) = -1 := by
          rw [w29]
          show ¬ oI (f_X8_freeHandle (vw 1 I 16) (vw 1 I 29)) = -1
          rw [hf]
          exact nI_m1 (by omega)
        have uE := u_open h.1.1 I T4 t1.2.1 hy nf k1 kl
        unfold q_X8_openAt gH_X8_openAt gV_X8_openAt at uE
        rw [e1, e2, e3, fq] at uE
        have ip := i.T (show T ≤ T + 10001 by omega) h30
        have tT := i.Z.tT
        -- the walk, on a heap that the class leaves
        have walk : ∀ (Z : MI) (l' : Nat), Pth (vw 2 X 158) (Z 192) l' → X 158 1 = nI l' → l' ≤ 12 → Z 188 20 = -1 → Z 188 21 = -1 → Z 194 = I 194 → ∃ D' G' c' how t', M_X10_walks [mR (some 188), mR (some 192), mI (nI l')] (Z, J1) = some (some (mI how), (rF Z D' G' c', J1)) ∧ Stq none (vw 6 I 1) (vw 12 I 17) (gV_X1_walk 12 (vw 2 X 158) (vw 6 I 1) (vw 12 I 17) (vw 2 X 158 0 1)) (vw 1 I 29) (wks I 31) D' nn vol t' (T + 10001) 0 (fun _ => 0) ∧ Wko (gV_X1_walk 12 (vw 2 X 158) (vw 6 I 1) (vw 12 I 17) (vw 2 X 158 0 1)) (q_X1_walk 12 (vw 2 X 158) (vw 6 I 1) (vw 12 I 17) (vw 2 X 158 0 1)) how c' := by
          intro Z l' pth x158 l12 z20 z21 zD
          have x1 : vw 2 X 158 0 1 = nI l' := x158
          obtain ⟨D', G', c', how, t', w1, w2, w3, w4, w5⟩ := r.walks ip c (fun e _ z => absurd rfl z) rl Z (by rw [z20]; exact Or.inl ⟨rfl, fun _ => rfl⟩) z21 (Z 195) (Z 188 22) rl.s14 (by decide) (P := vw 2 X 158) (lp := l') (m := l') (L := 12) pth.1 (Nat.le_refl _) l12 (by decide) (by omega) pth.2 (vw 2 X 158 0 1) (by rw [x1, ix_nI (by omega)]) (by omega)
          rw [← zD, rF_id] at w1
          exact ⟨D', G', c', how, t', w1, w2, w5⟩
        generalize hQ : q_X1_walk 12 (vw 2 X 158) (vw 6 I 1) (vw 12 I 17) (vw 2 X 158 0 1) = Q at uE walk
        generalize hV1 : gV_X1_walk 12 (vw 2 X 158) (vw 6 I 1) (vw 12 I 17) (vw 2 X 158 0 1) = V1 at uE walk
        rw [if_neg (nI_pos (show k < 2 ^ 31 by omega)), if_pos (show nI k < 6 from nI_lt (b := 6) k6 (by decide)), ix_nI (by omega), if_neg (nI_pos (show k < 2 ^ 31 by omega)), if_pos (show nI k < 6 from nI_lt (b := 6) k6 (by decide)), if_neg (nI_pos (show k < 2 ^ 31 by omega)), if_pos (show nI k < 6 from nI_lt (b := 6) k6 (by decide))] at uE
        have begin_ : ∀ (I1 Y1 Z : MI) (l' : Nat) (how : Int32) (Y2 : MI), M_X10_isPath [mR (some 188)] (I1, J1) = some (some (mI 1), (Y1, J1)) → (∀ k, k ≠ 1 → k ≠ 2 → k ≠ 3 → k ≠ 15 → Y1 188 k = I 188 k) → Y1 194 = I 194 → M_X10_keeps [mR (some 188)] (Y1, J1) = some (none, (Z, J1)) → Z 188 15 = nI l' → M_X10_walks [mR (some 188), mR (some 192), mI (nI l')] (Z, J1) = some (some (mI how), (Y2, J1)) → M_X10_open [mR (some 188)] (I1, J1) = if how = 0 then Ev T_X10_open 56 [some (mR (some 188)), some (mI 0)] [] (Y2, J1) else some (some (mI (-1)), (rfR Y2 4, J1)) := by
          intro I1 Y1 Z l' how Y2 g1 g2 g3 g4 g5 g6
          have t13 : ¬ bz (Y1 188 13) = 0 := by
            rw [g2 13 (by decide) (by decide) (by decide) (by decide)]
            obtain ⟨_, _, _, _, _, z, _⟩ := td
            exact z
          have n6 : ¬ nI (cnt (fun k => decide (¬ Y1 194 (11 + k) = -1)) 0 6) = 6 := fun z => by
            have le := cnt_le (fun k => decide (¬ Y1 194 (11 + k) = -1)) 6 0
            have : cnt (fun k => decide (¬ Y1 194 (11 + k) = -1)) 0 6 = 6 := (nI_eq (b := 6) (by omega) (by decide)).mp z
            rw [cnt_all6] at this
            have := this k k6
            rw [g3, r.B.ha k k6, hk1] at this
            simp at this
          rw [E_X10_open]
          simp only [rl.kt, if_true, g1, Option.bind_some, asI_I, if_neg i10, rl.fz, if_neg t13, w_handleMany rl, if_neg n6, g4, asV_n, rl.f14, rl.fi, g5, g6, w_refuses rl _ (show (4 : Int32) = nI 4 from rfl) (by decide)]
        have neg : ∀ (I1 : MI) (how Qv : Int32), (how = -2 ∨ how = -3) → Q = how → Pair I J T B0 (M_X9_open [mR (some 0)]) (M_X10_open [mR (some 188)]) := by
          intro _ how _ hh hq
          have q0 : Q < 0 := by rw [hq]; rcases hh with z | z <;> rw [z] <;> decide
          rw [if_pos q0, if_pos q0, if_pos q0, if_neg (show ¬ (0 : Int32) ≤ -1 by decide)] at uE
          have oX : ∀ y, y < 17 ∨ 30 ≤ y → y ≠ 186 → rfz (pt (pt X 29 (vw 1 I 29)) 17 V1) 4 y = X y := fun y q q2 => by rw [rfz_o _ _ q2, pt_out (by omega), pt_out (by omega)]
          obtain ⟨Z, Y1, l', g1, g2, g3, g4, l12, pth, x158, z15, zf, fin⟩ := rest (rfz (pt (pt X 29 (vw 1 I 29)) 17 V1) 4) (fun y q q2 => oX y (by omega) q2)
          obtain ⟨D', G', c', how2, t', w1, w2, w5⟩ := walk Z l' pth x158 l12 zf.2.1 zf.2.2.1 zf.1
          have h2 : ¬ how2 = 0 := by
            intro z
            rcases w5 with ⟨_, a', _, z2, _⟩ | ⟨z1, _⟩ | ⟨z1, _⟩
            · rw [z2] at q0; exact nI_pos (show a' < 2 ^ 31 by have := ‹At V1 a'›.1; omega) q0
            · rw [z] at z1; exact absurd z1 (by decide)
            · rw [z] at z1; exact absurd z1 (by decide)
          refine ⟨-1, _, rfR (rF Z D' G' c') 4, J1, uE, ?_, fin1r (k := 4) fin zf h.2.2.2.1 (by decide) (fun j => ?_) ⟨?_, ?_, ?_, fun j hj => ?_⟩ w2.2.1 w2.2.2.1 w2.1⟩
          · rw [begin_ _ _ _ _ _ _ g1 g2 g3 g4 z15 w1, if_neg h2]
          · show rfz (pt (pt X 29 (vw 1 I 29)) 17 V1) 4 186 j = _
            unfold rfz
            rw [up2_r, pt_out (by decide), pt_out (by decide), x186]
          · rw [← e1]; exact vw_fr (fun y _ _ => oX y (by omega) (by omega))
          · rw [vw_fr (I := pt (pt X 29 (vw 1 I 29)) 17 V1) (fun y _ _ => rfz_o _ _ (by omega)), vw_pt]
          · rw [vw_fr (I := pt (pt X 29 (vw 1 I 29)) 17 V1) (fun y _ _ => rfz_o _ _ (by omega)), vw_out _ _ (by decide), vw_pt]
          · rw [wks_fr (I := I) (fun y p q => by rw [oX y (by omega) (by omega), e4 y p (by omega)]) hj]; exact WkEq.refl _
        obtain ⟨Z0, Y0, l0, _, _, _, _, b0, p0, x0, _, f0, _⟩ := rest X (fun _ _ _ => rfl)
        obtain ⟨_, _, _, how0, _, _, s0, w0⟩ := walk Z0 l0 p0 x0 b0 f0.2.1 f0.2.2.1 f0.1
        rcases w0 with ⟨_, a', _, qa, at'⟩ | ⟨z1, z2⟩ | ⟨z1, z2⟩
        · have a64 := at'.1
          have a1 : ¬ V1 1 a' = 0 := by rw [at'.2.1]; exact i10
          rw [qa, if_neg (nI_pos (show a' < 2 ^ 31 by omega)), if_neg (nI_pos (show a' < 2 ^ 31 by omega)), if_neg (nI_pos (show a' < 2 ^ 31 by omega)), if_pos (nI_pos' (show k < 2 ^ 31 by omega))] at uE
          have oX : ∀ y, y < 17 ∨ 30 ≤ y → pt (pt X 29 (uv (vw 1 I 29) 0 k (nI a'))) 17 (gV_X1_hold V1 (nI a')) y = X y := fun y q => by rw [pt_out (by omega), pt_out (by omega)]
          obtain ⟨Z, Y1, l', g1, g2, g3, g4, l12, pth, x158, z15, zf, fin⟩ := rest (pt (pt X 29 (uv (vw 1 I 29) 0 k (nI a'))) 17 (gV_X1_hold V1 (nI a'))) (fun y q _ => oX y (by omega))
          obtain ⟨D', G', c', how, t', w1, w2, w5⟩ := walk Z l' pth x158 l12 zf.2.1 zf.2.2.1 zf.1
          have hc' : how = 0 ∧ c' = nI a' := by
            rcases w5 with ⟨y1, b', y2, y3, y4⟩ | ⟨y1, y2⟩ | ⟨y1, y2⟩
            · refine ⟨y1, ?_⟩
              rw [y2, ← y3, qa]
            · rw [qa] at y2
              exact absurd y2 (fun z => by have := nI_pos (show a' < 2 ^ 31 by omega); rw [z] at this; exact this (by decide))
            · rw [qa] at y2
              exact absurd y2 (fun z => by have := nI_pos (show a' < 2 ^ 31 by omega); rw [z] at this; exact this (by decide))
          obtain ⟨h0, hc'⟩ := hc'
          subst h0 hc'
          have r1 := (w2.1.r5 (V' := gV_X1_hold V1 (nI a')) (fun q _ p5 _ => ho_k _ _ q p5) ⟨by rw [ho_k _ _ _ (by decide)], by rw [ho_k _ _ _ (by decide)], by rw [ho_k _ _ _ (by decide)], by rw [ho_k _ _ _ (by decide)]⟩).hset k6 (nI a') i.N.n60
          have i1 := (w2.2.1.hold a64 a1 (by decide)).hadd a64 (by rw [ho_k _ _ _ (by decide)]; exact a1) (by rw [ho_k _ _ _ (by decide)]; exact at'.2.2) k6 hk1 (fun _ => rfl)
          refine ⟨nI k, _, rF Z (sD D' (11 + k) (nI a')) G' (nI a'), J1, uE, ?_, fin1 fin zf h.2.2.2.1 ?_ ⟨?_, vw_pt _ _ _, ?_, fun j hj => ?_⟩ i1 (w2.2.2.1.fr (ho_k _ _ _ (by decide)) (ho_k _ _ _ (by decide))) r1⟩
          · rw [begin_ _ _ _ _ _ _ g1 g2 g3 g4 z15 w1, if_pos rfl]
            have dh : ∀ j, j < 6 → D' (11 + j) = vw 1 I 29 0 j := fun j hj => w2.1.B.ha j hj
            have go : ∀ j, j ≤ k → Ev T_X10_open 56 [some (mR (some 188)), some (mI 0)] [] (rF Z D' G' (nI a'), J1) = Ev T_X10_open 56 [some (mR (some 188)), some (mI (nI j))] [] (rF Z D' G' (nI a'), J1) := by
              intro j
              induction j with
              | zero => intro _; rfl
              | succ j ih =>
                intro hj
                have e11 : (11 : Int32) + nI j = nI (11 + j) := nI_add 11 j
                have nj : ¬ vw 1 I 29 0 j = -1 := fun z => by
                  have := kmin j (Nat.zero_le _) (by omega)
                  rw [if_pos z] at this
                  cases this
                rw [ih (by omega), E_X10_open_56]
                simp only [rl.f18, Option.bind_some, rl.ldD _ e11 (show 11 + j < 1853 by omega), rF_D, dh j (by omega), if_neg nj, nI_1]
            have e11 : (11 : Int32) + nI k = nI (11 + k) := nI_add 11 k
            rw [go k (Nat.le_refl _), E_X10_open_56]
            simp only [rl.f18, Option.bind_some, rl.ldD _ e11 (show 11 + k < 1853 by omega), rF_D, dh k k6, hk1, if_true, rl.fi, rF_c, rl.stD _ _ e11 (show 11 + k < 1853 by omega), rF_sD]
          · rw [oX 186 (by decide)]; exact x186
          · rw [← e1]; exact vw_fr (fun y _ _ => oX y (by omega))
          · rw [vw_out _ _ (by decide), vw_pt]
          · rw [wks_fr (I := I) (fun y p q => by rw [oX y (by omega), e4 y p (by omega)]) hj]; exact WkEq.refl _
        · exact neg X (-2) 0 (Or.inl rfl) z2
        · exact neg X (-3) 0 (Or.inr rfl) z2
    · refine absurd hy ?_
      unfold rowO
      rw [if_pos (by rw [u.2.2.1.2.1]; exact Int32.le_refl _)]
      exact (by decide : ¬ (-1 : Int32) = 1)
  · exact Pair.path_no h h30 t1 t2 t3 hy (by decide) (u_open_no h.1.1 I T4 t1.2.1 hy) Rfs.opn

/-! Something made, on both sides. -/
def fiD (D : RowV) (n e : Nat) (a0 a1 a2 a3 : Int32) : RowV := sD (sD (sD (sD (sD (sD (sD (sD D 4 (nI (n + 1))) (401 + 5 * n + 0) a0) (401 + 5 * n + 1) a1) (401 + 5 * n + 2) a2) (401 + 5 * n + 3) a3) (401 + 5 * n + 4) 1) (701 + 9 * e + 3) (nI n)) (701 + 9 * e + 4) (D (701 + 9 * e + 4) + 1)
theorem fiD_o (D : RowV) {n e : Nat} (a0 a1 a2 a3 : Int32) {j : Nat} (h4 : j ≠ 4) (hn : j < 401 + 5 * n ∨ 401 + 5 * n + 5 ≤ j) (h3 : j ≠ 701 + 9 * e + 3) (h44 : j ≠ 701 + 9 * e + 4) : fiD D n e a0 a1 a2 a3 j = D j := by
  unfold fiD
  rw [sD_n _ _ h44, sD_n _ _ h3, sD_n _ _ (by omega), sD_n _ _ (by omega), sD_n _ _ (by omega), sD_n _ _ (by omega), sD_n _ _ (by omega), sD_n _ _ h4]
theorem fiD_at (D : RowV) {n e : Nat} (n60 : n < 60) (a0 a1 a2 a3 : Int32) : fiD D n e a0 a1 a2 a3 4 = nI (n + 1) ∧ fiD D n e a0 a1 a2 a3 (401 + 5 * n + 0) = a0 ∧ fiD D n e a0 a1 a2 a3 (401 + 5 * n + 1) = a1 ∧ fiD D n e a0 a1 a2 a3 (401 + 5 * n + 2) = a2 ∧ fiD D n e a0 a1 a2 a3 (401 + 5 * n + 3) = a3 ∧ fiD D n e a0 a1 a2 a3 (401 + 5 * n + 4) = 1 ∧ fiD D n e a0 a1 a2 a3 (701 + 9 * e + 3) = nI n ∧ fiD D n e a0 a1 a2 a3 (701 + 9 * e + 4) = D (701 + 9 * e + 4) + 1 := by
  unfold fiD
  refine ⟨?_, ?_, ?_, ?_, ?_, ?_, ?_, sD_s _ _ _⟩
  · rw [sD_n _ _ (by omega), sD_n _ _ (by omega), sD_n _ _ (by omega), sD_n _ _ (by omega), sD_n _ _ (by omega), sD_n _ _ (by omega), sD_n _ _ (by omega), sD_s]
  · rw [sD_n _ _ (by omega), sD_n _ _ (by omega), sD_n _ _ (by omega), sD_n _ _ (by omega), sD_n _ _ (by omega), sD_n _ _ (by omega), sD_s]
  · rw [sD_n _ _ (by omega), sD_n _ _ (by omega), sD_n _ _ (by omega), sD_n _ _ (by omega), sD_n _ _ (by omega), sD_s]
  · rw [sD_n _ _ (by omega), sD_n _ _ (by omega), sD_n _ _ (by omega), sD_n _ _ (by omega), sD_s]
  · rw [sD_n _ _ (by omega), sD_n _ _ (by omega), sD_n _ _ (by omega), sD_s]
  · rw [sD_n _ _ (by omega), sD_n _ _ (by omega), sD_s]
  · rw [sD_n _ _ (by omega), sD_s]
theorem Rel.fill {U : NodV} {V V' : MemV} {H : OneV} {W : WkV} {D : RowV} {n vol : Nat} (r : Rel none U V H W D n) (hN : NodI U n vol) (n59 : n < 60) {e kp : Nat} (e64 : e < 64) (e1 : ¬ V 1 e = 0) {nm ym kind : Int32} (hn : Nm nm ym) (hk : kind = 1 ∨ kind = 2) (a4 : ∀ j, V' 4 j = if j = e then nI n else V 4 j) (a6 : ∀ j, V' 6 j = if j = e then V 6 e + 1 else V 6 j) (kk : ∀ q : Fin 12, q ≠ 4 → q ≠ 6 → V' q = V q) : Rel none (addU U n (U 1 kp) (nI kp) nm kind) V' H W (fiD D n e (U 1 kp) (if kind = 2 then 1 else 0) (nI kp) ym) (n + 1) := by
  obtain ⟨u1, u2, u3, u4, u5, u05, u06⟩ := addU_r U n (U 1 kp) (nI kp) nm kind
  generalize addU U n (U 1 kp) (nI kp) nm kind = U' at u1 u2 u3 u4 u5 u05 u06
  obtain ⟨d4, d0, d1, d2, d3, d5, d6, d7⟩ := fiD_at D (e := e) n59 (U 1 kp) (if kind = 2 then 1 else 0) (nI kp) ym
  have o := fun {j} h4 hn h3 h44 => fiD_o D (n := n) (e := e) (U 1 kp) (if kind = 2 then 1 else 0) (nI kp) ym (j := j) h4 hn h3 h44
  have kd0 : ¬ kind = 0 := by rcases hk with z | z <;> rw [z] <;> decide
  have b := r.B
  have c1 := kk 1 (by decide) (by decide)
  have c0 := kk 0 (by decide) (by decide)
  refine r.fr ⟨?_, ?_, ?_, ?_, ?_, ?_, ?_, ?_, ?_, ?_, ?_⟩ (fun j h1 h2 => o (by omega) (by omega) (by omega) (by omega)) (fun k z => by cases z)
  · rw [o (by omega) (by omega) (by omega) (by omega), c0]; exact b.tk
  · rw [o (by omega) (by omega) (by omega) (by omega), c0]; exact b.lo
  · rw [o (by omega) (by omega) (by omega) (by omega), c0]; exact b.tr
  · rw [o (by omega) (by omega) (by omega) (by omega), c0]; exact b.rm
  · rw [d4, u05]
  · intro v hv
    rw [o (by omega) (by omega) (by omega) (by omega), kk 9 (by decide) (by decide)]; exact b.rt v hv
  · intro v hv
    rw [o (by omega) (by omega) (by omega) (by omega), kk 10 (by decide) (by decide)]; exact b.ov v hv
  · intro k hk'
    rw [o (by omega) (by omega) (by omega) (by omega)]; exact b.ha k hk'
  · intro k hk'
    rw [u1, u2, u3, u4]
    by_cases z : k = n
    · subst z
      rw [d0, d1, d2, d3, d5, if_pos rfl, if_pos rfl, if_pos rfl, if_pos rfl, if_neg kd0]
      exact ⟨rfl, rfl, Or.inl hn, rfl, fun _ => rfl⟩
    · rw [if_neg z, if_neg z, if_neg z, if_neg z, o (by omega) (by omega) (by omega) (by omega), o (by omega) (by omega) (by omega) (by omega), o (by omega) (by omega) (by omega) (by omega), o (by omega) (by omega) (by omega) (by omega), o (by omega) (by omega) (by omega) (by omega)]
      exact b.nd k (by omega)
  · intro f hf
    rw [o (by omega) (by omega) (by omega) (by omega), c1]
    exact b.th f hf
  · intro f hf q
    rw [c1] at q
    have en := b.en f hf q
    rw [o (by omega) (by omega) (by omega) (by omega), o (j := 701 + 9 * f + 2) (by omega) (by omega) (by omega) (by omega), o (j := 701 + 9 * f + 5) (by omega) (by omega) (by omega) (by omega), o (j := 701 + 9 * f + 6) (by omega) (by omega) (by omega) (by omega), o (j := 701 + 9 * f + 7) (by omega) (by omega) (by omega) (by omega), o (j := 701 + 9 * f + 8) (by omega) (by omega) (by omega) (by omega), c1, kk 2 (by decide) (by decide), kk 3 (by decide) (by decide), kk 7 (by decide) (by decide), kk 8 (by decide) (by decide), cov_fr (kk 10 (by decide) (by decide)), a4, a6]
    by_cases z : f = e
    · subst z
      rw [d6, d7, if_pos rfl, if_pos rfl, en.2.2.2.1]
      exact ⟨en.1, en.2.1, rfl, rfl, en.2.2.2.2.1, en.2.2.2.2.2⟩
    · rw [if_neg z, if_neg z, o (by omega) (by omega) (by omega) (by omega), o (by omega) (by omega) (by omega) (by omega)]
      exact en
theorem Rfs.make (x : Int32) : Rfs (M_X10_make [mR (some 188), mI x]) 3 := by
  intro J X X1 y h hp hc
  rw [E_X10_make]
  simp only [h.kt, if_true, hp, Option.bind_some, asI_I, h.fz, w_refuses h _ (show (3 : Int32) = nI 3 from rfl) (by decide)]
  rcases hc with z | ⟨z1, z2⟩
  · rw [if_pos z]
  · rw [if_neg z1, if_pos z2]
theorem P_make {I : MI} {J : MJ} {T B0 : Nat} (h : St I J T B0) (h30 : T + 10001 ≤ 1000000000) (x : Int32) : Pair I J T B0 (M_X9_make [mR (some 0), mI x]) (M_X10_make [mR (some 188), mI x]) := by
  obtain ⟨n, t1, t2, t3⟩ := h.2.1
  have T4 := t1.1
  have w1' : vw 6 (tkn I n) 1 = vw 6 I 1 := vw_fr (fun x _ _ => tkn_o I n (by omega) (by omega))
  by_cases hy : (rowO I n).1 = 1
  · rcases h.2.2.2.2.2.2.2.2.2 with td | u
    · obtain ⟨vol, nn, t, X, J1, hv, i, c, r, k1, kl, rl, ⟨e1, e2, e3, e4, e16⟩, x186, rest⟩ := act_pre (n := n) h h30 td t1 t2 t3 hy
      have n60 := i.N.n60
      have ev : vw 6 I 1 0 5 = nI nn := i.N.ev
      by_cases full : nn = 60
      · have hf : ¬ q_X2_isFull (vw 6 (tkn I n) 1) = 0 := by
          rw [w1']
          unfold q_X2_isFull
          rw [ev, full]
          decide
        refine Pair.path_full h h30 td t1 t2 t3 hy (k := 3) (by decide) (u_make_full h.1.1 I T4 t1.2.1 x hy hf) (fun Y Y1 y1 y2 y3 => ?_)
        have t13 : ¬ bz (Y1 188 13) = 0 := by
          rw [y3 13 (by decide) (by decide) (by decide) (by decide)]
          obtain ⟨_, _, _, _, _, z, _⟩ := td
          exact z
        have y4 : Y1 194 4 = 60 := by rw [y2, r.B.ev, ev, full]; rfl
        rw [E_X10_make]
        simp only [h.1.2.kt, if_true, y1, Option.bind_some, asI_I, if_neg i10, h.1.2.fz, if_neg t13, h.1.2.f18, h.1.2.ldD _ (show (4 : Int32) = nI 4 from rfl) (show 4 < 1853 by decide), y4, w_refuses h.1.2 _ (show (3 : Int32) = nI 3 from rfl) (by decide)]
      · have n59 : nn < 60 := by omega
        have hf : q_X2_isFull (vw 6 (tkn I n) 1) = 0 := by
          rw [w1']
          unfold q_X2_isFull
          rw [ev, if_pos (show nI nn < 60 from nI_lt (b := 60) n59 (by decide))]
        have uE := u_make h.1.1 I T4 t1.2.1 x hy hf k1 kl
        unfold q_X8_makeAt gU_X8_makeAt gV_X8_makeAt at uE
        rw [e1, e2] at uE
        have ip := i.T (show T ≤ T + 10000 by omega) (by omega)
        have tT := i.Z.tT
        have place : ∀ (Z : MI) (l' : Nat), Pth (vw 2 X 158) (Z 192) l' → l' ≤ 12 → Z 188 20 = -1 → Z 188 21 = -1 → Z 194 = I 194 → ∃ D' G' c' y t', M_X10_isPlace [mR (some 188), mR (some 192), mI (nI l')] (Z, J1) = some (some (mI y), (rF Z D' G' c', J1)) ∧ Stq none (vw 6 I 1) (vw 12 I 17) (gV_X1_walk 12 (vw 2 X 158) (vw 6 I 1) (vw 12 I 17) (vw 2 X 158 0 1 - 1)) (vw 1 I 29) (wks I 31) D' nn vol t' (T + 10000) 0 (fun _ => 0) ∧ t' ≤ t + 25 ∧ Plo (vw 6 I 1) (gV_X1_walk 12 (vw 2 X 158) (vw 6 I 1) (vw 12 I 17) (vw 2 X 158 0 1 - 1)) (vw 2 X 158) (Z 192) l' 12 (q_X1_walk 12 (vw 2 X 158) (vw 6 I 1) (vw 12 I 17) (vw 2 X 158 0 1 - 1)) y c' := by
          intro Z l' pth l12 z20 z21 zD
          obtain ⟨D', G', c', y, t', w1, w2, w3, w4, w5⟩ := r.isPlace ip c (fun e _ z => absurd rfl z) rl Z (by rw [z20]; exact Or.inl ⟨rfl, fun _ => rfl⟩) z21 (Z 195) (Z 188 22) rl.s14 (by decide) (L := 12) pth l12 (by decide) (by omega) (by omega)
          rw [← zD, rF_id] at w1
          exact ⟨D', G', c', y, t', w1, w2, by omega, w5⟩
        generalize hQ : q_X1_walk 12 (vw 2 X 158) (vw 6 I 1) (vw 12 I 17) (vw 2 X 158 0 1 - 1) = Q at uE place
        generalize hV1 : gV_X1_walk 12 (vw 2 X 158) (vw 6 I 1) (vw 12 I 17) (vw 2 X 158 0 1 - 1) = V1 at uE place
        have begin_ : ∀ (I1 Y1 Z : MI) (l' : Nat) (y : Int32) (D' G' : RowV) (c' : Int32), M_X10_isPath [mR (some 188)] (I1, J1) = some (some (mI 1), (Y1, J1)) → (∀ k, k ≠ 1 → k ≠ 2 → k ≠ 3 → k ≠ 15 → Y1 188 k = I 188 k) → Y1 194 = I 194 → M_X10_keeps [mR (some 188)] (Y1, J1) = some (none, (Z, J1)) → Z 188 15 = nI l' → M_X10_isPlace [mR (some 188), mR (some 192), mI (nI l')] (Z, J1) = some (some (mI y), (rF Z D' G' c', J1)) → M_X10_make [mR (some 188), mI x] (I1, J1) = if y = 0 then some (some (mI (-1)), (rfR (rF Z D' G' c') 3, J1)) else M_X10_make [mR (some 188), mI x] (I1, J1) := by
          intro I1 Y1 Z l' y D' G' c' g1 g2 g3 g4 g5 g6
          by_cases z : y = 0
          · rw [if_pos z]
            have t13 : ¬ bz (Y1 188 13) = 0 := by
              rw [g2 13 (by decide) (by decide) (by decide) (by decide)]
              obtain ⟨_, _, _, _, _, z, _⟩ := td
              exact z
            have y4 : ¬ Y1 194 4 = 60 := by rw [g3, r.B.ev, ev]; exact fun w => full ((nI_eq (b := 60) (by omega) (by decide)).mp w)
            rw [E_X10_make]
            simp only [rl.kt, if_true, g1, Option.bind_some, asI_I, if_neg i10, rl.fz, if_neg t13, rl.f18, rl.ldD _ (show (4 : Int32) = nI 4 from rfl) (show 4 < 1853 by decide), if_neg y4, g4, asV_n, rl.f14, rl.fi, g5, g6, if_pos z, w_refuses rl _ (show (3 : Int32) = nI 3 from rfl) (by decide)]
          · rw [if_neg z]
        have g13 : ∀ (Y1 : MI), (∀ k, k ≠ 1 → k ≠ 2 → k ≠ 3 → k ≠ 15 → Y1 188 k = I 188 k) → ¬ bz (Y1 188 13) = 0 := fun Y1 g2 => by
          rw [g2 13 (by decide) (by decide) (by decide) (by decide)]
          obtain ⟨_, _, _, _, _, z, _⟩ := td
          exact z
        have g4' : ∀ (Y1 : MI), Y1 194 = I 194 → ¬ Y1 194 4 = 60 := fun Y1 g3 => by rw [g3, r.B.ev, ev]; exact fun w => full ((nI_eq (b := 60) (by omega) (by decide)).mp w)
        obtain ⟨Z0, Y0, l0, _, _, _, _, b0, p0, x0, _, f0, _⟩ := rest X (fun _ _ _ => rfl)
        obtain ⟨D0, G0, c0, y0, t0, _, s0, tl0, w0⟩ := place Z0 l0 p0 b0 f0.2.1 f0.2.2.1 f0.1
        have oX : ∀ (U' : NodV) (V' : MemV) y, y = 0 ∨ (7 ≤ y ∧ y < 17) ∨ 29 ≤ y → pt (pt X 1 U') 17 V' y = X y := fun U' V' y q => by rw [pt_out (by omega), pt_out (by omega)]
        have oZ : ∀ (U' : NodV) (V' : MemV) y, y = 0 ∨ (7 ≤ y ∧ y < 17) ∨ 29 ≤ y → y ≠ 186 → rfz (pt (pt X 1 U') 17 V') 3 y = X y := fun U' V' y q q2 => by rw [rfz_o _ _ q2, oX U' V' y q]
        have win : ∀ (U' : NodV) (V' : MemV), Win (pt (pt X 1 U') 17 V') U' V' (vw 1 I 29) (wks I 31) := fun U' V' => by
          refine ⟨?_, vw_pt _ _ _, ?_, fun j hj => ?_⟩
          · rw [vw_out _ _ (by decide), vw_pt]
          · rw [← e3]; exact vw_fr (fun y _ _ => oX U' V' y (by omega))
          · rw [wks_fr (I := I) (fun y p q => by rw [oX U' V' y (by omega), e4 y p (by omega)]) hj]; exact WkEq.refl _
        have winr : ∀ (U' : NodV) (V' : MemV), Win (rfz (pt (pt X 1 U') 17 V') 3) U' V' (vw 1 I 29) (wks I 31) := fun U' V' => by
          obtain ⟨a, b, c, d⟩ := win U' V'
          refine ⟨?_, ?_, ?_, fun j hj => ?_⟩
          · rw [vw_fr (I := pt (pt X 1 U') 17 V') (fun y _ _ => rfz_o _ _ (by omega))]; exact a
          · rw [vw_fr (I := pt (pt X 1 U') 17 V') (fun y _ _ => rfz_o _ _ (by omega))]; exact b
          · rw [vw_fr (I := pt (pt X 1 U') 17 V') (fun y _ _ => rfz_o _ _ (by omega))]; exact c
          · rw [wks_fr (I := pt (pt X 1 U') 17 V') (fun y p q => rfz_o _ _ (by omega)) hj]; exact d j hj
        have r186 : ∀ (U' : NodV) (V' : MemV) j, rfz (pt (pt X 1 U') 17 V') 3 186 j = if j = 3 then I 186 3 + 1 else I 186 j := fun U' V' j => by
          unfold rfz
          rw [up2_r, oX U' V' 186 (by decide), x186]
        rcases w0 with ⟨_, l0', a', _, qa, at', fo, fo2, nm0, la⟩ | ⟨y00, bad⟩
        · have a64 := at'.1
          obtain ⟨kp, kpn, kpe, kp2⟩ := i.N.fo fo
          have t30 := i.Z.tT
          rw [if_neg fo2, if_neg fo2, if_neg fo2] at uE
          have child : ∀ (Z : MI) (D1 G1 : RowV) (t1 : Nat), Stq none (vw 6 I 1) (vw 12 I 17) V1 (vw 1 I 29) (wks I 31) D1 nn vol t1 (T + 10000) 0 (fun _ => 0) → t1 ≤ t + 25 → Z 188 20 = -1 → Z 188 21 = -1 → ∀ {nm ym : Int32}, Nm nm ym → ∃ D' G' e, M_X10_childOf [mR (some 188), mI (nI a'), mI ym] (rF Z D1 G1 (nI a'), J1) = some (some (mI (nI e)), (rF Z D' G' (nI a'), J1)) ∧ q_X1_reach (vw 6 I 1) V1 (nI a') nm = nI e ∧ e < 64 ∧ Stq none (vw 6 I 1) V1 (gV_X1_reach (vw 6 I 1) V1 (nI a') nm) (vw 1 I 29) (wks I 31) D' nn vol (t1 + 1) (T + 10000) 1 (fun _ => 0) ∧ gV_X1_reach (vw 6 I 1) V1 (nI a') nm 1 e = 1 ∧ gV_X1_reach (vw 6 I 1) V1 (nI a') nm 2 e = nI a' ∧ gV_X1_reach (vw 6 I 1) V1 (nI a') nm 3 e = nm ∧ gV_X1_reach (vw 6 I 1) V1 (nI a') nm 4 e = q_X2_find (vw 6 I 1) (V1 4 a') nm ∧ gV_X1_reach (vw 6 I 1) V1 (nI a') nm 4 a' = V1 4 a' ∧ gV_X1_reach (vw 6 I 1) V1 (nI a') nm 1 a' = 1 := by
            intro Z D1 G1 t1 s1 ht1 z20 z21 nm ym hn
            exact s1.1.childOf s1.2.1 s1.2.2.1 (fun e _ z => absurd rfl z) rl Z (by rw [z20]; exact Or.inl ⟨rfl, fun _ => rfl⟩) z21 G1 (nI a') (fun k z => by cases z) a64 at'.2.1 fo hn (by omega)
          obtain ⟨_, _, e, _, qe, e64, s1, v1e, v2e, v3e, v4e, v4a, v1a⟩ := child Z0 D0 G0 t0 s0 tl0 f0.2.1 f0.2.2.1 nm0
          have nm00 : Nm (vw 2 X 158 1 (l0 - 1)) (Z0 192 (l0 - 1)) := nm0
          have lpos : 0 < q_X4_last 12 (vw 2 X 158) := by
            rw [la]
            exact nm0.gt.1
          unfold q_X8_gapIn gV_X8_gapIn at uE
          rw [if_pos lpos, if_pos lpos, qa, la, qe] at uE
          have l0b := b0
          have kp60 : kp < 60 := by omega
          generalize hV2 : gV_X1_reach (vw 6 I 1) V1 (nI a') (vw 2 X 158 1 (l0 - 1)) = V2 at uE s1 v1e v2e v3e v4e v4a v1a
          have isA : q_X1_isAbsence V2 (nI e) = if V2 4 e = -1 then 1 else 0 := by
            unfold q_X1_isAbsence
            rw [Inv.isE e64 (by rw [v1e]; exact i10), if_neg i10, ix_nI (by omega)]
          have ref1 : ∀ (I1 Y1 Z : MI) (D' G' : RowV) (t1 : Nat), M_X10_isPath [mR (some 188)] (I1, J1) = some (some (mI 1), (Y1, J1)) → (∀ k, k ≠ 1 → k ≠ 2 → k ≠ 3 → k ≠ 15 → Y1 188 k = I 188 k) → Y1 194 = I 194 → M_X10_keeps [mR (some 188)] (Y1, J1) = some (none, (Z, J1)) → Z 188 15 = nI l0 → Z 188 20 = -1 → Z 188 21 = -1 → M_X10_isPlace [mR (some 188), mR (some 192), mI (nI l0)] (Z, J1) = some (some (mI 1), (rF Z D' G' (nI a'), J1)) → Nm (vw 2 X 158 1 (l0 - 1)) (Z 192 (l0 - 1)) → Stq none (vw 6 I 1) (vw 12 I 17) V1 (vw 1 I 29) (wks I 31) D' nn vol t1 (T + 10000) 0 (fun _ => 0) → t1 ≤ t + 25 → ∃ D2 G2, Stq none (vw 6 I 1) V1 V2 (vw 1 I 29) (wks I 31) D2 nn vol (t1 + 1) (T + 10000) 1 (fun _ => 0) ∧ M_X10_make [mR (some 188), mI x] (I1, J1) = if V2 4 e = -1 then some (some (mI (nI nn)), (rF Z (fiD D2 nn e (vw 6 I 1 1 kp) (if x = 0 then 0 else 1) (nI kp) (Z 192 (l0 - 1))) G2 (nI a'), J1)) else some (some (mI (-1)), (rfR (rF Z D2 G2 (nI a')) 3, J1)) := by
            intro I1 Y1 Z D' G' t1 g1 g2 g3 g4 g5 z20 z21 g6 nm' st1 ht1
            obtain ⟨D2, G2, e', c1, c2, c3, c4, _⟩ := child Z D' G' t1 st1 ht1 z20 z21 nm'
            have ee : e' = e := (nI_eq (by omega) (by omega)).mp (c2.symm.trans qe)
            subst ee
            rw [hV2] at c4
            refine ⟨D2, G2, c4, ?_⟩
            have b1 := st1.1.B.en a' a64 (by rw [at'.2.1]; exact i10)
            have b2 := c4.1.B.en e' e64 (by rw [v1e]; exact i10)
            have dk : D' (701 + 9 * a' + 3) = nI kp := by rw [b1.2.2.1, kpe]
            have dn : D2 4 = nI nn := by rw [c4.1.B.ev, ev]
            have dp : D2 (401 + 5 * kp + 0) = vw 6 I 1 1 kp := (c4.1.B.nd kp (by omega)).1
            have lm : nI l0 - 1 = nI (l0 - 1) := nI_sub (b := 1) (by omega)
            have ls : ∀ D G, ld (rF Z D G (nI a'), J1) 11 192 (nI (l0 - 1)) = some (Z 192 (l0 - 1)) := fun D G => by
              rw [ld_ok _ rl.s14 (inb_nI (by omega) (by decide)), rF_o _ _ _ _ (by decide) (by decide) (by decide), show (nI (l0 - 1)).toNatClampNeg = l0 - 1 from ix_nI (by omega)]
            have z15 : ∀ D G, rF Z D G (nI a') 188 15 = nI l0 := fun D G => by rw [rF_k _ _ _ _ (by decide)]; exact g5
            rw [E_X10_make]
            simp only [rl.kt, if_true, g1, Option.bind_some, asI_I, if_neg i10, rl.fz, if_neg (g13 Y1 g2), rl.f18, rl.ldD _ (show (4 : Int32) = nI 4 from rfl) (show 4 < 1853 by decide), if_neg (g4' Y1 g3), g4, asV_n, rl.f14, rl.fi, g5, g6, rF_c, w_its rl _ 3 (show (3 : Int32) = nI 3 from rfl) (show a' < 128 by omega) (by decide), rF_D, dk, z15, lm, ls, c1, w_its rl _ 3 (show (3 : Int32) = nI 3 from rfl) (show e' < 128 by omega) (by decide), b2.2.2.1, w_refuses rl _ (show (3 : Int32) = nI 3 from rfl) (by decide)]
            by_cases em : V2 4 e' = -1
            · rw [if_pos em, if_pos em]
              simp only [rl.kt, if_true, dn, nI_1, rl.stD _ _ (show (4 : Int32) = nI 4 from rfl) (show 4 < 1853 by decide), Option.bind_some, rF_sD, w_nodeAt _ nn 0 (show (0 : Int32) = nI 0 from rfl), w_nodeAt _ nn 1 (show (1 : Int32) = nI 1 from rfl), w_nodeAt _ nn 2 (show (2 : Int32) = nI 2 from rfl), w_nodeAt _ nn 3 (show (3 : Int32) = nI 3 from rfl), w_nodeAt _ nn 4 (show (4 : Int32) = nI 4 from rfl), asI_I, w_nodeHas rl _ 0 (show (0 : Int32) = nI 0 from rfl) kp60 (by decide), rF_D, sD_n _ _ (show 401 + 5 * kp + 0 ≠ 4 by omega), dp, w_flag, rl.f18, rl.f14, rl.fi, z15, lm, ls, rl.stD _ _ (show nI (401 + 5 * nn + 0) = nI (401 + 5 * nn + 0) from rfl) (show 401 + 5 * nn + 0 < 1853 by omega), rl.stD _ _ (show nI (401 + 5 * nn + 1) = nI (401 + 5 * nn + 1) from rfl) (show 401 + 5 * nn + 1 < 1853 by omega), rl.stD _ _ (show nI (401 + 5 * nn + 2) = nI (401 + 5 * nn + 2) from rfl) (show 401 + 5 * nn + 2 < 1853 by omega), rl.stD _ _ (show nI (401 + 5 * nn + 3) = nI (401 + 5 * nn + 3) from rfl) (show 401 + 5 * nn + 3 < 1853 by omega), rl.stD _ _ (show nI (401 + 5 * nn + 4) = nI (401 + 5 * nn + 4) from rfl) (show 401 + 5 * nn + 4 < 1853 by omega), w_entryAt _ e' 3 (show (3 : Int32) = nI 3 from rfl), w_entryAt _ e' 4 (show (4 : Int32) = nI 4 from rfl), rl.stD _ _ (show nI (701 + 9 * e' + 3) = nI (701 + 9 * e' + 3) from rfl) (show 701 + 9 * e' + 3 < 1853 by omega), rl.stD _ _ (show nI (701 + 9 * e' + 4) = nI (701 + 9 * e' + 4) from rfl) (show 701 + 9 * e' + 4 < 1853 by omega), rl.ldD _ (show nI (701 + 9 * e' + 4) = nI (701 + 9 * e' + 4) from rfl) (show 701 + 9 * e' + 4 < 1853 by omega), sD_n _ _ (show 701 + 9 * e' + 4 ≠ 4 by omega), sD_n _ _ (show 701 + 9 * e' + 4 ≠ 401 + 5 * nn + 0 by omega), sD_n _ _ (show 701 + 9 * e' + 4 ≠ 401 + 5 * nn + 1 by omega), sD_n _ _ (show 701 + 9 * e' + 4 ≠ 401 + 5 * nn + 2 by omega), sD_n _ _ (show 701 + 9 * e' + 4 ≠ 401 + 5 * nn + 3 by omega), sD_n _ _ (show 701 + 9 * e' + 4 ≠ 401 + 5 * nn + 4 by omega), sD_n _ _ (show 701 + 9 * e' + 4 ≠ 701 + 9 * e' + 3 by omega)]
              unfold fiD
              rfl
            · rw [if_neg em, if_neg em]
          by_cases em : V2 4 e = -1
          · have nfi : q_X2_find (vw 6 I 1) (nI kp) (V2 3 e) = -1 := by rw [v3e, ← kpe, ← v4e]; exact em
            have no1 : ¬ nI e = -1 := nI_m1 (by omega)
            rw [isA, if_pos em, if_neg i10, if_neg i10] at uE
            rw [if_neg no1, if_neg no1, if_neg no1] at uE
            have nodeOf : q_X1_nodeOf V2 (V2 2 (ix (nI e))) = nI kp := by
              unfold q_X1_nodeOf
              rw [ix_nI (by omega), v2e, Inv.isE a64 (by rw [v1a]; exact i10), if_neg i10, ix_nI (by omega), v4a, kpe]
            have kpf : ¬ q_X2_isFolder (vw 6 I 1) (nI kp) = 0 := by rw [i.N.fo' kpn kp2]; exact i10
            have fl : ∀ kd, q_X1_fill (vw 6 I 1) V2 (nI e) kd = nI nn ∧ gU_X1_fill (vw 6 I 1) V2 (nI e) kd = addU (vw 6 I 1) nn (vw 6 I 1 1 kp) (nI kp) (V2 3 e) kd ∧ gV_X1_fill (vw 6 I 1) V2 (nI e) kd = uv (uv V2 4 e (nI nn)) 6 e (V2 6 e + 1) := fun kd => by
              have pe := put_eq i.N n59 (vw 6 I 1 1 kp) (nI kp) (V2 3 e) kd
              unfold q_X1_fill gU_X1_fill gV_X1_fill
              rw [isA, if_pos em, if_neg i10, if_neg i10, if_neg i10, nodeOf, ix_nI (by omega)]
              unfold q_X2_addIn gU_X2_addIn
              rw [if_neg kpf, if_neg kpf, ix_nI (by omega), pe.1, pe.2]
              exact ⟨rfl, rfl, rfl⟩
            have uE2 : M_X9_make [mR (some 0), mI x] (I, J) = some (some (mI (nI nn)), (pt (pt X 1 (addU (vw 6 I 1) nn (vw 6 I 1 1 kp) (nI kp) (V2 3 e) (if x = 0 then 1 else 2))) 17 (uv (uv V2 4 e (nI nn)) 6 e (V2 6 e + 1)), J1)) := by
              rw [(fl 1).1, (fl 1).2.1, (fl 1).2.2, (fl 2).1, (fl 2).2.1, (fl 2).2.2] at uE
              simp only [ite_self] at uE
              rw [if_pos (nI_pos' (show nn < 2 ^ 31 by omega))] at uE
              rw [uE]
              by_cases z : x = 0
              · rw [if_pos z, if_pos z]
              · rw [if_neg z, if_neg z]
            obtain ⟨Z, Y1, l', g1, g2, g3, g4, l12, pth, x158, z15, zf, fin⟩ := rest (pt (pt X 1 (addU (vw 6 I 1) nn (vw 6 I 1 1 kp) (nI kp) (V2 3 e) (if x = 0 then 1 else 2))) 17 (uv (uv V2 4 e (nI nn)) 6 e (V2 6 e + 1))) (fun y q _ => oX _ _ y (by omega))
            have ll : l' = l0 := (nI_eq (by omega) (by omega)).mp (x158.symm.trans x0)
            subst ll
            obtain ⟨D', G', c', y, t', w1, w2, w3, w5⟩ := place Z l' pth l12 zf.2.1 zf.2.2.1 zf.1
            obtain ⟨y1, _, b', cb, qb, _, _, _, nmZ, _⟩ | ⟨_, bad⟩ := w5
            · have bb : c' = nI a' := by rw [cb, ← qb, qa]
              subst y1 bb
              obtain ⟨D2, G2, s2, rE⟩ := ref1 _ _ _ _ _ _ g1 g2 g3 g4 z15 zf.2.1 zf.2.2.1 w1 nmZ w2 w3
              rw [if_pos em] at rE
              have kd12 : (if x = 0 then (1 : Int32) else 2) = 1 ∨ (if x = 0 then (1 : Int32) else 2) = 2 := by
                by_cases z : x = 0
                · rw [if_pos z]; exact Or.inl rfl
                · rw [if_neg z]; exact Or.inr rfl
              have a4 : ∀ j, uv (uv V2 4 e (nI nn)) 6 e (V2 6 e + 1) 4 j = if j = e then nI nn else V2 4 j := fun j => by simp [uv]
              have a6 : ∀ j, uv (uv V2 4 e (nI nn)) 6 e (V2 6 e + 1) 6 j = if j = e then V2 6 e + 1 else V2 6 j := fun j => by simp [uv]
              have kk : ∀ q : Fin 12, q ≠ 4 → q ≠ 6 → uv (uv V2 4 e (nI nn)) 6 e (V2 6 e + 1) q = V2 q := fun q q4 q6 => by rw [uv_k _ _ _ _ _ q6, uv_k _ _ _ _ _ q4]
              have fe : (if (if x = 0 then (1 : Int32) else 2) = 2 then (1 : Int32) else 0) = if x = 0 then 0 else 1 := by
                by_cases z : x = 0
                · rw [if_pos z, if_pos z]; decide
                · rw [if_neg z, if_neg z]; decide
              have r2 := s2.1.fill (V' := uv (uv V2 4 e (nI nn)) 6 e (V2 6 e + 1)) (kp := kp) i.N n59 e64 (by rw [v1e]; exact i10) (show Nm (V2 3 e) (Z 192 (l' - 1)) by rw [v3e]; exact nmZ) kd12 a4 a6 kk
              rw [fe] at r2
              have i2 := s2.2.1.fill (kp := kp) (V' := uv (uv V2 4 e (nI nn)) 6 e (V2 6 e + 1)) h30 n59 e64 v1e v2e em a64 v1a (by rw [v4a, kpe]) kpn kp2 (by rw [v3e]; exact (i32_gt_ne nmZ.gt.1).2.2.1) nfi kd12 rfl a4 a6 kk
              exact ⟨nI nn, _, _, J1, uE2, rE, fin1 fin zf h.2.2.2.1 (by rw [oX _ _ 186 (by decide)]; exact x186) (win _ _) i2 (s2.2.2.1.fr (kk 1 (by decide) (by decide)) (kk 9 (by decide) (by decide))) r2⟩
            · rcases bad with b | b
              · exact absurd b fo2
              · exact absurd lpos b
          · have uE2 : M_X9_make [mR (some 0), mI x] (I, J) = some (some (mI (-1)), (rfz (pt (pt X 1 (vw 6 I 1)) 17 V2) 3, J1)) := by
              rw [isA, if_neg em, if_pos rfl, if_pos rfl] at uE
              simp only [if_true] at uE
              rw [if_neg (show ¬ (0 : Int32) ≤ -1 by decide)] at uE
              exact uE
            obtain ⟨Z, Y1, l', g1, g2, g3, g4, l12, pth, x158, z15, zf, fin⟩ := rest (rfz (pt (pt X 1 (vw 6 I 1)) 17 V2) 3) (fun y q q2 => oZ _ _ y (by omega) q2)
            have ll : l' = l0 := (nI_eq (by omega) (by omega)).mp (x158.symm.trans x0)
            subst ll
            obtain ⟨D', G', c', y, t', w1, w2, w3, w5⟩ := place Z l' pth l12 zf.2.1 zf.2.2.1 zf.1
            obtain ⟨y1, _, b', cb, qb, _, _, _, nmZ, _⟩ | ⟨_, bad⟩ := w5
            · have bb : c' = nI a' := by rw [cb, ← qb, qa]
              subst y1 bb
              obtain ⟨D2, G2, s2, rE⟩ := ref1 _ _ _ _ _ _ g1 g2 g3 g4 z15 zf.2.1 zf.2.2.1 w1 nmZ w2 w3
              rw [if_neg em] at rE
              exact ⟨-1, _, _, J1, uE2, rE, fin1r (k := 3) fin zf h.2.2.2.1 (by decide) (r186 _ _) (winr _ _) (s2.2.1.T (show T + 10000 ≤ T + 10001 by omega) h30) s2.2.2.1 s2.1⟩
            · rcases bad with b | b
              · exact absurd b fo2
              · exact absurd lpos b
        · subst y00
          have uE2 : M_X9_make [mR (some 0), mI x] (I, J) = some (some (mI (-1)), (rfz (pt (pt X 1 (vw 6 I 1)) 17 V1) 3, J1)) := by
            rcases bad with b | b
            · rw [if_pos b, if_pos b, if_pos b, if_neg (show ¬ (0 : Int32) ≤ -1 by decide)] at uE
              exact uE
            · by_cases b' : q_X1_isFolder (vw 6 I 1) V1 Q = 0
              · rw [if_pos b', if_pos b', if_pos b', if_neg (show ¬ (0 : Int32) ≤ -1 by decide)] at uE
                exact uE
              · unfold q_X8_gapIn gV_X8_gapIn at uE
                rw [if_neg b', if_neg b', if_neg b', if_neg b, if_pos rfl, if_pos rfl, if_pos rfl, if_neg (show ¬ (0 : Int32) ≤ -1 by decide), if_neg b] at uE
                exact uE
          obtain ⟨Z, Y1, l', g1, g2, g3, g4, l12, pth, x158, z15, zf, fin⟩ := rest (rfz (pt (pt X 1 (vw 6 I 1)) 17 V1) 3) (fun y q q2 => oZ _ _ y (by omega) q2)
          obtain ⟨D', G', c', y, t', w1, w2, _, w5⟩ := place Z l' pth l12 zf.2.1 zf.2.2.1 zf.1
          have yz : y = 0 := by
            rcases w5 with ⟨_, l1', a', _, qa, at', _, fo2, nm0, la⟩ | ⟨z, _⟩
            · rcases bad with b | b
              · exact absurd b fo2
              · rw [la] at b
                exact absurd nm0.gt.1 b
            · exact z
          subst yz
          refine ⟨-1, _, rfR (rF Z D' G' c') 3, J1, uE2, ?_, fin1r (k := 3) fin zf h.2.2.2.1 (by decide) (r186 _ _) (winr _ _) (w2.2.1.T (show T + 10000 ≤ T + 10001 by omega) h30) w2.2.2.1 w2.1⟩
          rw [begin_ _ _ _ _ _ _ _ _ g1 g2 g3 g4 z15 w1, if_pos rfl]
    · refine absurd hy ?_
      unfold rowO
      rw [if_pos (by rw [u.2.2.1.2.1]; exact Int32.le_refl _)]
      exact (by decide : ¬ (-1 : Int32) = 1)
  · exact Pair.path_no h h30 t1 t2 t3 hy (by decide) (u_make_no h.1.1 I T4 t1.2.1 x hy) (Rfs.make x)

/-! Something renamed, on both sides: the act. -/
theorem fin2r {I I1 Z : MI} {J1 : MJ} {T B0 vol nn t k : Nat} {U : NodV} {V : MemV} {H : OneV} {W : WkV} {D' G' : RowV} {c' : Int32} (fin : ∀ I2, (∀ x, x ≠ 188 → x ≠ 190 → x ≠ 194 → x ≠ 195 → I2 x = Z x) → (∀ k, k ≠ 22 → I2 188 k = Z 188 k) → S3 I2 → Wd I2 1 17 29 31 (I2 194) vol (T + 10001) → St I2 J1 (T + 10001) B0) (zl : ∀ x, x < 188 → Z x = I1 x) (z190 : Z 190 = I 190) (s3 : S3 I) (hk : k < 6) (i186 : ∀ j, I1 186 j = if j = k then I 186 k + 1 else I 186 j) (w : Win I1 U V H W) (i : Inv U V H W nn vol t (T + 10001) (fun _ => 0)) (c : CntI V) (r : Rel none U V H W D' nn) : St (rfR (rF Z D' G' c') k) J1 (T + 10001) B0 := by
  have w2 := w.z zl
  have o : ∀ x, x ≠ 190 → rfR (rF Z D' G' c') k x = rF Z D' G' c' x := fun x a => rfR_o _ _ a
  refine fin _ (fun x a b d e => by rw [o x b, rF_o _ _ _ _ a d e]) (fun k a => by rw [o 188 (by decide), rF_k _ _ _ _ a]) (s3.ref (k := k) (fun j => ?_) (fun j => ?_) hk) (Wd.mk i c r ?_ ?_ ?_ (fun k hk => ?_) (by rw [o 194 (by decide), rF_D]))
  · rw [o 186 (by decide), rF_o _ _ _ _ (by decide) (by decide) (by decide), zl 186 (by decide)]; exact i186 j
  · unfold rfR
    rw [up2_r, rF_o _ _ _ _ (by decide) (by decide) (by decide), z190]
  · rw [vw_fr (I := rF Z D' G' c') (fun x _ _ => o x (by omega)), vw_r _ _ _ _ (by decide)]; exact w2.1
  · rw [vw_fr (I := rF Z D' G' c') (fun x _ _ => o x (by omega)), vw_r _ _ _ _ (by decide)]; exact w2.2.1
  · rw [vw_fr (I := rF Z D' G' c') (fun x _ _ => o x (by omega)), vw_r _ _ _ _ (by decide)]; exact w2.2.2.1
  · rw [wks_fr (I := rF Z D' G' c') (fun x _ _ => o x (by omega)) hk, wks_fr (I := Z) (fun x _ _ => rF_o _ _ _ _ (by omega) (by omega) (by omega)) hk]; exact w2.2.2.2 k hk
theorem P_rename {I : MI} {J : MJ} {T B0 : Nat} (h : St I J T B0) (h30 : T + 10001 ≤ 1000000000) : Pair I J T B0 (M_X9_rename [mR (some 0)]) (M_X10_rename [mR (some 188)]) := by
  obtain ⟨n, t1, t2, t3⟩ := h.2.1
  have T4 := t1.1
  by_cases hy : (rowO I n).1 = 2
  · rcases h.2.2.2.2.2.2.2.2.2 with td | u
    · obtain ⟨vol, nn, t, X, J1, hv, i, c, r, k1, kl, rl, wf, x186, rest⟩ := act_pre2 (n := n) h h30 td t1 t2 t3 hy
      have e1 := wf.1
      have e2 := wf.2.1
      have n60 := i.N.n60
      have uE := u_rename h.1.1 I T4 t1.2.1 hy k1 kl
      unfold q_X8_renameTo gU_X8_renameTo gV_X8_renameTo at uE
      rw [e1, e2] at uE
      have ip := i.T (show T ≤ T + 10000 by omega) (by omega)
      have tT := i.Z.tT
      have plain : ∀ (Z : MI) (l' : Nat), Pth (vw 2 X 158) (Z 192) l' → l' ≤ 12 → Z 188 20 = -1 → Z 188 21 = -1 → Z 194 = I 194 → ∃ D' G' c' y t', M_X10_isPlain [mR (some 188), mR (some 192), mI (nI l')] (Z, J1) = some (some (mI y), (rF Z D' G' c', J1)) ∧ Stq none (vw 6 I 1) (vw 12 I 17) (gV_X1_walk 12 (vw 2 X 158) (vw 6 I 1) (vw 12 I 17) (vw 2 X 158 0 1)) (vw 1 I 29) (wks I 31) D' nn vol t' (T + 10000) 0 (fun _ => 0) ∧ t' ≤ t + 25 ∧ Pla (gV_X1_walk 12 (vw 2 X 158) (vw 6 I 1) (vw 12 I 17) (vw 2 X 158 0 1)) (q_X1_walk 12 (vw 2 X 158) (vw 6 I 1) (vw 12 I 17) (vw 2 X 158 0 1)) y c' := by
        intro Z l' pth l12 z20 z21 zD
        obtain ⟨D', G', c', y, t', w1, w2, w3, w4, w5⟩ := r.isPlain ip c (fun e _ z => absurd rfl z) rl Z (by rw [z20]; exact Or.inl ⟨rfl, fun _ => rfl⟩) z21 (Z 195) (Z 188 22) rl.s14 (by decide) (L := 12) pth l12 (by decide) (by omega) (by omega)
        rw [← zD, rF_id] at w1
        exact ⟨D', G', c', y, t', w1, w2, by omega, w5⟩
      generalize q_X1_walk 12 (vw 2 X 158) (vw 6 I 1) (vw 12 I 17) (vw 2 X 158 0 1) = Q at uE plain
      generalize gV_X1_walk 12 (vw 2 X 158) (vw 6 I 1) (vw 12 I 17) (vw 2 X 158 0 1) = V1 at uE plain
      obtain ⟨Z0, Y0, l0, l20, _, _, _, b0, p0, _, b20, p20, z017, d0, z020, z021, _⟩ := rest X (fun _ _ _ => rfl)
      obtain ⟨D0, G0, c0, y0, t0, _, s0, tl0, w0⟩ := plain Z0 l0 p0 b0 z020 z021 d0
      rcases w0 with ⟨_, a', _, qa, at', cc, v2, vc⟩ | ⟨y00, bad⟩
      · subst qa
        have a64 := at'.1
        rw [if_neg cc, if_neg cc, if_neg cc] at uE
        have qE : (if (q_X8_canTake (vw 1 X 16) (vw 6 I 1) (gV_X1_walk 12 (vw 2 X 160) (vw 6 I 1) (gV_X1_hold V1 (nI a')) ((vw 2 X 160 0 1) - 1)) (q_X1_walk 12 (vw 2 X 160) (vw 6 I 1) (gV_X1_hold V1 (nI a')) ((vw 2 X 160 0 1) - 1)) (nI a')) = 0 then (-1) else (if (q_X8_gapIn 12 (vw 1 X 16) (vw 2 X 160) (vw 6 I 1) (gV_X1_walk 12 (vw 2 X 160) (vw 6 I 1) (gV_X1_hold V1 (nI a')) ((vw 2 X 160 0 1) - 1)) (q_X1_walk 12 (vw 2 X 160) (vw 6 I 1) (gV_X1_hold V1 (nI a')) ((vw 2 X 160 0 1) - 1))) = ((-1)) then (-1) else nI a')) = rnQ (vw 1 X 16) (vw 2 X 160) (vw 6 I 1) V1 a' := rfl
        have uE2 : M_X9_rename [mR (some 0)] (I, J) = if 0 ≤ rnQ (vw 1 X 16) (vw 2 X 160) (vw 6 I 1) V1 a' then some (some (mI (rnQ (vw 1 X 16) (vw 2 X 160) (vw 6 I 1) V1 a')), (pt (pt X 1 (rnU (vw 1 X 16) (vw 2 X 160) (vw 6 I 1) V1 a')) 17 (rnV (vw 1 X 16) (vw 2 X 160) (vw 6 I 1) V1 a'), J1)) else some (some (mI (-1)), (rfz (pt (pt X 1 (rnU (vw 1 X 16) (vw 2 X 160) (vw 6 I 1) V1 a')) 17 (rnV (vw 1 X 16) (vw 2 X 160) (vw 6 I 1) V1 a')) 3, J1)) := uE
        clear uE qE
        -- the reference behind its first walk
        have ref1 : ∀ (I1 Y1 Z : MI) (l' l2 : Nat) (D' G' : RowV) (t1 : Nat), M_X10_areTwoPaths [mR (some 188)] (I1, J1) = some (some (mI 1), (Y1, J1)) → ¬ bz (Y1 188 13) = 0 → M_X10_keeps [mR (some 188)] (Y1, J1) = some (none, (Z, J1)) → Z 188 15 = nI l' → Z 188 17 = nI l2 → Z 188 20 = -1 → Z 188 21 = -1 → l2 ≤ 12 → Pth (vw 2 X 160) (Z 193) l2 → M_X10_isPlain [mR (some 188), mR (some 192), mI (nI l')] (Z, J1) = some (some (mI 1), (rF Z D' G' (nI a'), J1)) → Stq none (vw 6 I 1) (vw 12 I 17) V1 (vw 1 I 29) (wks I 31) D' nn vol t1 (T + 10000) 0 (fun _ => 0) → t1 ≤ t + 25 → ∃ (y : Int32) (D5 G5 : RowV) (c5 : Int32) (t5 : Nat), M_X10_rename [mR (some 188)] (I1, J1) = (if y = 0 then some (some (mI (-1)), (rfR (rF Z D5 G5 c5) 3, J1)) else some (some (mI (nI a')), (rF Z D5 G5 c5, J1))) ∧ (y = 1 ∧ rnQ (vw 1 X 16) (vw 2 X 160) (vw 6 I 1) V1 a' = nI a' ∨ y = 0 ∧ rnQ (vw 1 X 16) (vw 2 X 160) (vw 6 I 1) V1 a' = -1) ∧ Goo (rnU (vw 1 X 16) (vw 2 X 160) (vw 6 I 1) V1 a') (rnV (vw 1 X 16) (vw 2 X 160) (vw 6 I 1) V1 a') (vw 1 I 29) (wks I 31) D5 nn vol t5 (T + 10001) := by
          intro I1 Y1 Z l' l2 D' G' t1 g1 g2 g4 z15 z17 z20 z21 l212 pth2 g6 st1 ht1
          obtain ⟨y, D5, G5, c5, t5, m1, m2, m3⟩ := st1.1.renamed st1.2.1 st1.2.2.1 rl (up2 Z 188 20 (nI a')) (up2_s _ _ _ _) (by rw [up2_k _ _ _ (by decide)]; exact z21) G' at' v2 (P2 := vw 2 X 160) (l2 := l2) (by rw [up2_o _ _ _ (by decide)]; exact pth2) l212 (by rw [up2_k _ _ _ (by decide)]; exact z17) (by omega) h30 (vw 1 X 16)
          refine ⟨y, D5, G5, c5, t5, ?_, m2, m3⟩
          have s1 : up2 (rF Z D' G' (nI a')) 188 20 (nI a') = rF (up2 Z 188 20 (nI a')) D' G' (nI a') := rF_so _ _ _ _ _ (by decide) (by decide) (by decide)
          have s2 : up2 (rF (up2 Z 188 20 (nI a')) D5 G5 c5) 188 20 (-1) = rF Z D5 G5 c5 := by
            rw [rF_so _ _ _ _ _ (by decide) (by decide) (by decide)]
            congr 1
            funext x j
            unfold up2
            by_cases q : x = 188 ∧ j = 20
            · rw [if_pos q, q.1, q.2, z20]
            · rw [if_neg q, if_neg q]
          rw [E_X10_rename]
          simp only [rl.kt, if_true, g1, Option.bind_some, asI_I, if_neg i10, rl.fz, if_neg g2, g4, asV_n, rl.f14, rl.fi, z15, g6, rF_c, rl.wi, s1, m1, s2, w_refuses rl _ (show (3 : Int32) = nI 3 from rfl) (by decide)]
        have dec : rnQ (vw 1 X 16) (vw 2 X 160) (vw 6 I 1) V1 a' = nI a' ∨ rnQ (vw 1 X 16) (vw 2 X 160) (vw 6 I 1) V1 a' = -1 := by
          unfold rnQ
          split
          · exact Or.inr rfl
          · split
            · exact Or.inr rfl
            · exact Or.inl rfl
        generalize rnQ (vw 1 X 16) (vw 2 X 160) (vw 6 I 1) V1 a' = R at uE2 ref1 dec
        generalize rnU (vw 1 X 16) (vw 2 X 160) (vw 6 I 1) V1 a' = Uf at uE2 ref1
        generalize rnV (vw 1 X 16) (vw 2 X 160) (vw 6 I 1) V1 a' = Vf at uE2 ref1
        rcases dec with d | d
        · rw [d, if_pos (nI_pos' (show a' < 2 ^ 31 by omega))] at uE2
          obtain ⟨Z, Y1, l', l2, g1, g2, g4, l12, pth, z15, l212, pth2, z17, zD, z20, z21, zl, z190, fin⟩ := rest (pt (pt X 1 Uf) 17 Vf) (fun y q _ => o17 _ _ _ (by omega))
          obtain ⟨D', G', c', y, t', w1, w2, w3, w5⟩ := plain Z l' pth l12 z20 z21 zD
          rcases w5 with ⟨y1, b', cb, qb, _⟩ | ⟨_, bad⟩
          · have bb : c' = nI a' := by rw [cb, ← qb]
            subst y1 bb
            obtain ⟨y5, D5, G5, c5, t5, m1, m2, m3⟩ := ref1 _ _ _ _ _ _ _ _ g1 g2 g4 z15 z17 z20 z21 l212 pth2 w1 w2 w3
            rcases m2 with ⟨m2, _⟩ | ⟨_, m2⟩
            · rw [m2, if_neg i10] at m1
              have w2' := (win17 wf Uf Vf).z zl
              refine ⟨nI a', _, _, J1, uE2, m1, fin _ (fun x a _ d e => rF_o _ _ _ _ a d e) (fun k a => rF_k _ _ _ _ a) (h.2.2.2.1.fr ?_ ?_) (Wd.mk m3.2.1 m3.2.2 m3.1 ?_ ?_ ?_ (fun k hk => ?_) (rF_D _ _ _ _))⟩
              · rw [rF_o _ _ _ _ (by decide) (by decide) (by decide), zl 186 (by decide), o17 _ _ _ (by decide)]; exact x186
              · rw [rF_o _ _ _ _ (by decide) (by decide) (by decide), z190]
              · rw [vw_r _ _ _ _ (by decide)]; exact w2'.1
              · rw [vw_r _ _ _ _ (by decide)]; exact w2'.2.1
              · rw [vw_r _ _ _ _ (by decide)]; exact w2'.2.2.1
              · rw [wks_fr (I := Z) (fun x _ _ => rF_o _ _ _ _ (by omega) (by omega) (by omega)) hk]; exact w2'.2.2.2 k hk
            · rw [d] at m2
              exact absurd m2 (nI_m1 (by omega))
          · exact absurd bad cc
        · rw [d, if_neg (show ¬ (0 : Int32) ≤ -1 by decide)] at uE2
          obtain ⟨Z, Y1, l', l2, g1, g2, g4, l12, pth, z15, l212, pth2, z17, zD, z20, z21, zl, z190, fin⟩ := rest (rfz (pt (pt X 1 Uf) 17 Vf) 3) (fun y q q2 => o17r _ _ _ _ (by omega) q2)
          obtain ⟨D', G', c', y, t', w1, w2, w3, w5⟩ := plain Z l' pth l12 z20 z21 zD
          rcases w5 with ⟨y1, b', cb, qb, _⟩ | ⟨_, bad⟩
          · have bb : c' = nI a' := by rw [cb, ← qb]
            subst y1 bb
            obtain ⟨y5, D5, G5, c5, t5, m1, m2, m3⟩ := ref1 _ _ _ _ _ _ _ _ g1 g2 g4 z15 z17 z20 z21 l212 pth2 w1 w2 w3
            rcases m2 with ⟨_, m2⟩ | ⟨m2, _⟩
            · rw [d] at m2
              exact absurd m2.symm (nI_m1 (by omega))
            · rw [m2, if_pos rfl] at m1
              exact ⟨-1, _, _, J1, uE2, m1, fin2r (k := 3) fin zl z190 h.2.2.2.1 (by decide) (r17 x186 _ _ 3) (win17r wf _ _ 3) m3.2.1 m3.2.2 m3.1⟩
          · exact absurd bad cc
      · rw [if_pos bad, if_pos bad, if_pos bad, if_neg (show ¬ (0 : Int32) ≤ -1 by decide)] at uE
        obtain ⟨Z, Y1, l', l2, g1, g2, g4, l12, pth, z15, l212, pth2, z17, zD, z20, z21, zl, z190, fin⟩ := rest (rfz (pt (pt X 1 (vw 6 I 1)) 17 V1) 3) (fun y q q2 => o17r _ _ _ _ (by omega) q2)
        obtain ⟨D', G', c', y, t', w1, w2, w3, w5⟩ := plain Z l' pth l12 z20 z21 zD
        have yz : y = 0 := by
          rcases w5 with ⟨_, b', _, _, _, cc, _⟩ | ⟨z, _⟩
          · exact absurd bad cc
          · exact z
        subst yz
        refine ⟨-1, _, rfR (rF Z D' G' c') 3, J1, uE, ?_, fin2r (k := 3) fin zl z190 h.2.2.2.1 (by decide) (r17 x186 _ _ 3) (win17r wf _ _ 3) (w2.2.1.T (show T + 10000 ≤ T + 10001 by omega) h30) w2.2.2.1 w2.1⟩
        rw [E_X10_rename]
        simp only [rl.kt, if_true, g1, Option.bind_some, asI_I, if_neg i10, rl.fz, if_neg g2, g4, asV_n, rl.f14, rl.fi, z15, w1, w_refuses rl _ (show (3 : Int32) = nI 3 from rfl) (by decide)]
    · refine absurd hy ?_
      unfold rowO
      rw [if_pos (by rw [u.2.2.1.2.1]; exact Int32.le_refl _)]
      exact (by decide : ¬ (-1 : Int32) = 2)
  · have uE := u_rename_no h.1.1 I T4 t1.2.1 hy
    have rl := h.1.2
    have o : ∀ x, x ≠ 7 → (x < 158 ∨ 183 ≤ x) → x ≠ 186 → rfz (tkn I n) 3 x = I x := fun x p q r => by rw [rfz_o _ _ r, tkn_o _ _ p q]
    obtain ⟨y, Y1, g1, g2, g3, g4, g5⟩ := path2 (I := I) (Y := rfz (tkn I n) 3) rl t1 (by rw [o 188 (by decide) (by decide) (by decide)]; exact t2) (fun k hk => by rw [o 189 (by decide) (by decide) (by decide)]; exact t3 k hk)
    have rf := w_refuses rl Y1 (k := 3) (x := 3) rfl (by decide)
    have res : M_X10_rename [mR (some 188)] (rfz (tkn I n) 3, J) = some (some (mI (-1)), (rfR Y1 3, J)) := by
      rw [E_X10_rename]
      simp only [rl.kt, if_true, g1, Option.bind_some, asI_I, rl.fz, rf]
      by_cases z : y = 0
      · rw [if_pos z]
      · rw [if_neg z]
        have : bz (Y1 188 13) = 0 := by
          rw [g3 13 (by decide) (by decide) (by decide) (by decide) (by decide), o 188 (by decide) (by decide) (by decide)]
          rcases h.2.2.2.2.2.2.2.2.2 with ⟨vol, ad, p, q, hv, td, ⟨nn, t, i, c, r⟩, hs⟩ | u
          · rcases g5 (Told.h6 i) with ⟨q1, _⟩ | ⟨_, q1⟩
            · exact absurd q1 hy
            · exact absurd q1 z
          · exact u.2.1
        rw [if_pos this]
    refine ⟨-1, _, _, J, uE, res, ?_⟩
    have ro : ∀ x, x ≠ 190 → rfR Y1 3 x = Y1 x := fun x a => rfR_o _ _ a
    refine h.tk h30 (h.2.2.2.1.rf (by decide) (g2 186 (by decide) (by decide) (by decide)) (by rw [g2 190 (by decide) (by decide) (by decide), o 190 (by decide) (by decide) (by decide)])) (fun x a b c d e f g i j => ?_) (fun k a b c d e f => ?_) ?_ ?_
    · rw [ro x e, g2 x d f g, o x a b c]
    · rw [ro 188 (by decide), g3 k a b c d e, o 188 (by decide) (by decide) (by decide)]
    · rw [ro 7 (by decide), g2 7 (by decide) (by decide) (by decide), rfz_o _ _ (by decide)]
      exact tkn_7 I n
    · rw [ro 188 (by decide)]
      exact g4

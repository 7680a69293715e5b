/-! Something removed, on both sides: the act. -/
theorem win17 {I X : MI} (wf : WF I X) (U' : NodV) (V' : MemV) : Win (pt (pt X 1 U') 17 V') U' V' (vw 1 I 29) (wks I 31) := by
  obtain ⟨_, _, e3, e4, _⟩ := wf
  have oX : ∀ y, 29 ≤ y → pt (pt X 1 U') 17 V' y = X y := fun y q => by rw [pt_out (by omega), pt_out (by omega)]
  refine ⟨?_, vw_pt _ _ _, ?_, fun j hj => ?_⟩
  · rw [vw_out _ _ (by decide), vw_pt]
  · rw [← e3]; exact vw_fr (fun y _ _ => oX y (by omega))
  · rw [wks_fr (I := I) (fun y p q => by rw [oX y (by omega), e4 y p (by omega)]) hj]; exact WkEq.refl _
theorem win17r {I X : MI} (wf : WF I X) (U' : NodV) (V' : MemV) (k : Nat) : Win (rfz (pt (pt X 1 U') 17 V') k) U' V' (vw 1 I 29) (wks I 31) := by
  obtain ⟨a, b, c, d⟩ := win17 wf U' V'
  refine ⟨?_, ?_, ?_, fun j hj => ?_⟩
  · rw [vw_fr (I := pt (pt X 1 U') 17 V') (fun y _ _ => rfz_o _ _ (by omega))]; exact a
  · rw [vw_fr (I := pt (pt X 1 U') 17 V') (fun y _ _ => rfz_o _ _ (by omega))]; exact b
  · rw [vw_fr (I := pt (pt X 1 U') 17 V') (fun y _ _ => rfz_o _ _ (by omega))]; exact c
  · rw [wks_fr (I := pt (pt X 1 U') 17 V') (fun y p q => rfz_o _ _ (by omega)) hj]; exact d j hj
theorem o17 (X : MI) (U' : NodV) (V' : MemV) {y : Nat} (q : y = 0 ∨ (7 ≤ y ∧ y < 17) ∨ 29 ≤ y) : pt (pt X 1 U') 17 V' y = X y := by rw [pt_out (by omega), pt_out (by omega)]
theorem o17r (X : MI) (U' : NodV) (V' : MemV) (k : Nat) {y : Nat} (q : y = 0 ∨ (7 ≤ y ∧ y < 17) ∨ 29 ≤ y) (q2 : y ≠ 186) : rfz (pt (pt X 1 U') 17 V') k y = X y := by rw [rfz_o _ _ q2, o17 X U' V' q]
theorem r17 {I X : MI} (x186 : X 186 = I 186) (U' : NodV) (V' : MemV) (k j : Nat) : rfz (pt (pt X 1 U') 17 V') k 186 j = if j = k then I 186 k + 1 else I 186 j := by
  unfold rfz
  rw [up2_r, o17 X U' V' (by decide), x186]
theorem Told.t13 {I : MI} {J : MJ} {T B0 : Nat} (td : Told I J T B0) {Y1 : MI} (g2 : ∀ k, k ≠ 1 → k ≠ 2 → k ≠ 3 → k ≠ 15 → Y1 188 k = I 188 k) : ¬ bz (Y1 188 13) = 0 := by
  rw [g2 13 (by decide) (by decide) (by decide) (by decide)]
  obtain ⟨_, _, _, _, _, z, _⟩ := td
  exact z
theorem P_remove {I : MI} {J : MJ} {T B0 : Nat} (h : St I J T B0) (h30 : T + 10001 ≤ 1000000000) : Pair I J T B0 (M_X9_remove [mR (some 0)]) (M_X10_remove [mR (some 188)]) := by
  obtain ⟨n, t1, t2, t3⟩ := h.2.1
  have T4 := t1.1
  by_cases hy : (rowO I n).1 = 1
  · rcases h.2.2.2.2.2.2.2.2.2 with td | u
    · obtain ⟨vol, nn, t, X, J1, hv, i, c, r, k1, kl, rl, wf, x186, rest⟩ := act_pre (n := n) h h30 td t1 t2 t3 hy
      have e1 := wf.1
      have e2 := wf.2.1
      have n60 := i.N.n60
      have uE := u_remove h.1.1 I T4 t1.2.1 hy k1 kl
      unfold q_X8_removeAt gU_X8_removeAt gV_X8_removeAt at uE
      rw [e1, e2] at uE
      have ip := i.T (show T ≤ T + 10000 by omega) (by omega)
      have tT := i.Z.tT
      have plain : ∀ (Z : MI) (l' : Nat), Pth (vw 2 X 158) (Z 192) l' → l' ≤ 12 → Z 188 20 = -1 → Z 188 21 = -1 → Z 194 = I 194 → ∃ D' G' c' y t', M_X10_isPlain [mR (some 188), mR (some 192), mI (nI l')] (Z, J1) = some (some (mI y), (rF Z D' G' c', J1)) ∧ Stq none (vw 6 I 1) (vw 12 I 17) (gV_X1_walk 12 (vw 2 X 158) (vw 6 I 1) (vw 12 I 17) (vw 2 X 158 0 1)) (vw 1 I 29) (wks I 31) D' nn vol t' (T + 10000) 0 (fun _ => 0) ∧ Pla (gV_X1_walk 12 (vw 2 X 158) (vw 6 I 1) (vw 12 I 17) (vw 2 X 158 0 1)) (q_X1_walk 12 (vw 2 X 158) (vw 6 I 1) (vw 12 I 17) (vw 2 X 158 0 1)) y c' := by
        intro Z l' pth l12 z20 z21 zD
        obtain ⟨D', G', c', y, t', w1, w2, w3, w4, w5⟩ := r.isPlain ip c (fun e _ z => absurd rfl z) rl Z (by rw [z20]; exact Or.inl ⟨rfl, fun _ => rfl⟩) z21 (Z 195) (Z 188 22) rl.s14 (by decide) (L := 12) pth l12 (by decide) (by omega) (by omega)
        rw [← zD, rF_id] at w1
        exact ⟨D', G', c', y, t', w1, w2, w5⟩
      generalize q_X1_walk 12 (vw 2 X 158) (vw 6 I 1) (vw 12 I 17) (vw 2 X 158 0 1) = Q at uE plain
      generalize gV_X1_walk 12 (vw 2 X 158) (vw 6 I 1) (vw 12 I 17) (vw 2 X 158 0 1) = V1 at uE plain
      obtain ⟨Z0, Y0, l0, _, _, _, _, b0, p0, x0, _, f0, _⟩ := rest X (fun _ _ _ => rfl)
      obtain ⟨D0, G0, c0, y0, t0, _, s0, w0⟩ := plain Z0 l0 p0 b0 f0.2.1 f0.2.2.1 f0.1
      rcases w0 with ⟨_, a', _, qa, at', cc, v2, vc⟩ | ⟨y00, bad⟩
      · have a64 := at'.1
        have a0 : ¬ V1 1 a' = 0 := by rw [at'.2.1]; exact i10
        obtain ⟨k, kn, ke, k4⟩ := s0.2.1.M.nk i.N at'
        have nodeOf : q_X1_nodeOf V1 Q = nI k := by
          unfold q_X1_nodeOf
          rw [qa, Inv.isE a64 a0, if_neg i10, ix_nI (by omega), ke]
        have km : ¬ nI k = -1 := nI_m1 (by omega)
        rw [if_neg cc, if_neg cc, if_neg cc, nodeOf] at uE
        have ref1 : ∀ (I1 Y1 Z : MI) (l' : Nat) (D' G' : RowV) (t1 : Nat), M_X10_isPath [mR (some 188)] (I1, J1) = some (some (mI 1), (Y1, J1)) → (∀ k, k ≠ 1 → k ≠ 2 → k ≠ 3 → k ≠ 15 → Y1 188 k = I 188 k) → M_X10_keeps [mR (some 188)] (Y1, J1) = some (none, (Z, J1)) → Z 188 15 = nI l' → M_X10_isPlain [mR (some 188), mR (some 192), mI (nI l')] (Z, J1) = some (some (mI 1), (rF Z D' G' (nI a'), J1)) → Stq none (vw 6 I 1) (vw 12 I 17) V1 (vw 1 I 29) (wks I 31) D' nn vol t1 (T + 10000) 0 (fun _ => 0) → M_X10_remove [mR (some 188)] (I1, J1) = if q_X2_howManyIn (vw 6 I 1) (nI k) ≤ 0 then Ev T_X10_remove 101 [some (mR (some 188)), some (mI (nI k)), some (mI (nI 128))] [] (rF Z (itr (dcD a') 0 128 (sD (sD D' (401 + 5 * k + 4) 0) (701 + 9 * a' + 4) (D' (701 + 9 * a' + 4) + 1))) G' (nI a'), J1) else some (some (mI (-1)), (rfR (rF Z D' G' (nI a')) 3, J1)) := by
          intro I1 Y1 Z l' D' G' t1 g1 g2 g4 g5 g6 st1
          have nm := w_nodeMany (I := rF Z D' G' (nI a')) rl i.N (by rw [rF_D]; exact st1.1) (nI k)
          rw [if_neg km] at nm
          have b1 := st1.1.B.en a' a64 a0
          have dk : D' (701 + 9 * a' + 3) = nI k := by rw [b1.2.2.1, ke]
          rw [E_X10_remove]
          simp only [rl.kt, if_true, g1, Option.bind_some, asI_I, if_neg i10, rl.fz, if_neg (td.t13 g2), g4, asV_n, rl.f14, rl.fi, g5, g6, rF_c, w_its rl _ 3 (show (3 : Int32) = nI 3 from rfl) (show a' < 128 by omega) (by decide), rF_D, dk, nm, rl.f18, w_nodeAt _ k 4 (show (4 : Int32) = nI 4 from rfl), rl.stD _ _ (show nI (401 + 5 * k + 4) = nI (401 + 5 * k + 4) from rfl) (show 401 + 5 * k + 4 < 1853 by omega), rF_sD, w_entryAt _ a' 4 (show (4 : Int32) = nI 4 from rfl), rl.ldD _ (show nI (701 + 9 * a' + 4) = nI (701 + 9 * a' + 4) from rfl) (show 701 + 9 * a' + 4 < 1853 by omega), rl.stD _ _ (show nI (701 + 9 * a' + 4) = nI (701 + 9 * a' + 4) from rfl) (show 701 + 9 * a' + 4 < 1853 by omega), sD_n _ _ (show 701 + 9 * a' + 4 ≠ 401 + 5 * k + 4 by omega), w_refuses rl _ (show (3 : Int32) = nI 3 from rfl) (by decide), w_remove_loop rl]
        by_cases few : q_X2_howManyIn (vw 6 I 1) (nI k) ≤ 0
        · have nc : ∀ j, j < nn → ¬ vw 6 I 1 4 j = 0 → ¬ vw 6 I 1 2 j = nI k := by
            unfold q_X2_howManyIn at few
            have cl := cnt_le (fun j => decide (¬ vw 6 I 1 4 j = 0 ∧ vw 6 I 1 2 j = nI k)) (evN (vw 6 I 1)) 0
            have ev := i.N.evn
            rw [ev] at few cl
            have z0 : cnt (fun j => decide (¬ vw 6 I 1 4 j = 0 ∧ vw 6 I 1 2 j = nI k)) 0 nn = 0 := by
              rcases Nat.eq_zero_or_pos (cnt (fun j => decide (¬ vw 6 I 1 4 j = 0 ∧ vw 6 I 1 2 j = nI k)) 0 nn) with z | z
              · exact z
              · exact absurd few (nI_nle z (by omega))
            intro j hj q1 q2
            have := cnt_z z0 j (Nat.zero_le _) (by omega)
            simp only [decide_eq_false_iff_not] at this
            exact this ⟨q1, q2⟩
          obtain ⟨B, iB, B1, BV, Be, i2, hB⟩ := s0.2.1.removed (by omega) at' v2 vc ke kn k4 nc
          have tk : gU_X2_take (vw 6 I 1) (nI k) = uv (vw 6 I 1) 4 k 0 := by
            unfold gU_X2_take
            rw [i.N.ex kn, if_neg k4, if_neg i10, ix_nI (by omega)]
          rw [if_pos few, if_pos few, if_pos few, tk, qa, if_pos (nI_pos' (show k < 2 ^ 31 by omega))] at uE
          obtain ⟨Z, Y1, l', g1, g2, g3, g4, l12, pth, x158, z15, zf, fin⟩ := rest (pt (pt X 1 (uv (vw 6 I 1) 4 k 0)) 17 (gV_X1_empty V1 (nI a'))) (fun y q _ => o17 _ _ _ (by omega))
          obtain ⟨D', G', c', y, t', w1, w2, w5⟩ := plain Z l' pth l12 zf.2.1 zf.2.2.1 zf.1
          rcases w5 with ⟨y1, b', cb, qb, _⟩ | ⟨_, bad⟩
          · have bb : c' = nI a' := by rw [cb, ← qb, qa]
            subst y1 bb
            have rE := ref1 _ _ _ _ _ _ _ g1 g2 g4 z15 w1 w2
            rw [if_pos few, dc_sD a' _ _ (fun i _ => by omega), dc_sD a' _ _ (fun i _ => by omega)] at rE
            have rB := w2.1.below i.N B1 BV
            have d4 : D' (701 + 9 * a' + 4) = itr (dcD a') 0 128 D' (701 + 9 * a' + 4) := (dc_o a' 128 0 D' _ (fun i _ _ => by omega)).symm
            rw [d4] at rE
            generalize itr (dcD a') 0 128 D' = D1 at rE rB
            obtain ⟨G2, q1, q2⟩ := rB.counts2 iB rl Z zf.2.1 G' (nI a') (D' := sD (sD D1 (401 + 5 * k + 4) 0) (701 + 9 * a' + 4) (D1 (701 + 9 * a' + 4) + 1)) (fun j hj => by rw [sD_n _ _ (by omega), sD_n _ _ (by omega)]) (fun f hf => by
              rw [sD_n _ _ (by omega), sD_n _ _ (by omega), sD_n _ _ (by omega), sD_n _ _ (by omega), sD_n _ _ (by omega), sD_n _ _ (by omega)]
              exact ⟨rfl, rfl, rfl⟩)
            have g0 := q2 a' a64 Be
            have k0 : ∀ q : Fin 6, q ≠ 4 → uv (vw 6 I 1) 4 k 0 q = vw 6 I 1 q := fun q hq => uv_k _ _ _ _ _ hq
            have u4 : ∀ j, uv (vw 6 I 1) 4 k 0 4 j = if j = k then 0 else vw 6 I 1 4 j := fun j => by simp [uv]
            rw [E_X10_remove_101, if_pos (show (128 : Int32) ≤ nI 128 by decide)] at rE
            simp only [rl.kt, if_true, q1, Option.bind_some, asV_n, rl.f19, rl.fi, rF_c, rl.ldG _ rfl (show a' < 128 by omega), rF_G, rl.f18, w_entryAt _ a' 3 (show (3 : Int32) = nI 3 from rfl), w_entryAt _ a' 8 (show (8 : Int32) = nI 8 from rfl), w_entryAt _ a' 1 (show (1 : Int32) = nI 1 from rfl), asI_I, rl.stD _ _ (show nI (701 + 9 * a' + 3) = nI (701 + 9 * a' + 3) from rfl) (show 701 + 9 * a' + 3 < 1853 by omega), rl.stD _ _ (show nI (701 + 9 * a' + 8) = nI (701 + 9 * a' + 8) from rfl) (show 701 + 9 * a' + 8 < 1853 by omega), rl.stD _ _ (show nI (701 + 9 * a' + 1) = nI (701 + 9 * a' + 1) from rfl) (show 701 + 9 * a' + 1 < 1853 by omega), rF_sD] at rE
            have cB : CntI B := s0.2.2.1.sub (fun f hf q => by
              rw [B1 f hf] at q
              by_cases z : ¬ V1 1 f = 0 ∧ V1 2 f = nI a'
              · exact z.1
              · rw [if_neg z] at q; exact q) (BV 9 (by decide) (by decide))
            rcases hB with ⟨hz, m4, m6, mk⟩ | ⟨hz, m1, m2, m6, mk⟩
            · rw [if_pos (g0.mpr hz)] at rE
              have r2 := rB.emp0 i.N a64 Be kn u4 k0 m4 m6 mk
              exact ⟨nI k, _, _, J1, uE, rE, fin1 fin zf h.2.2.2.1 (by rw [o17 _ _ _ (by decide)]; exact x186) (win17 wf _ _) i2 (cB.fr (mk 1 (by decide) (by decide)) (mk 9 (by decide) (by decide))) r2⟩
            · rw [if_neg (fun z => hz (g0.mp z))] at rE
              have r2 := rB.emp1 i.N a64 Be kn u4 k0 m1 m2 m6 mk
              exact ⟨nI k, _, _, J1, uE, rE, fin1 fin zf h.2.2.2.1 (by rw [o17 _ _ _ (by decide)]; exact x186) (win17 wf _ _) i2 (cB.sub (fun f hf q => by
                rw [m1] at q
                by_cases z : f = a'
                · rw [z]; exact Be
                · rw [if_neg z] at q; exact q) (mk 9 (by decide) (by decide) (by decide) (by decide))) r2⟩
          · exact absurd bad cc
        · rw [if_neg few, if_neg few, if_neg few, if_neg (show ¬ (0 : Int32) ≤ -1 by decide)] at uE
          obtain ⟨Z, Y1, l', g1, g2, g3, g4, l12, pth, x158, z15, zf, fin⟩ := rest (rfz (pt (pt X 1 (vw 6 I 1)) 17 V1) 3) (fun y q q2 => o17r _ _ _ _ (by omega) q2)
          obtain ⟨D', G', c', y, t', w1, w2, w5⟩ := plain Z l' pth l12 zf.2.1 zf.2.2.1 zf.1
          rcases w5 with ⟨y1, b', cb, qb, _⟩ | ⟨_, bad⟩
          · have bb : c' = nI a' := by rw [cb, ← qb, qa]
            subst y1 bb
            have rE := ref1 _ _ _ _ _ _ _ g1 g2 g4 z15 w1 w2
            rw [if_neg few] at rE
            exact ⟨-1, _, _, J1, uE, rE, fin1r (k := 3) fin zf h.2.2.2.1 (by decide) (r17 x186 _ _ 3) (win17r wf _ _ 3) (w2.2.1.T (show T + 10000 ≤ T + 10001 by omega) h30) w2.2.2.1 w2.1⟩
          · exact absurd bad cc
      · rw [if_pos bad, if_pos bad, if_pos bad, if_neg (show ¬ (0 : Int32) ≤ -1 by decide)] at uE
        obtain ⟨Z, Y1, l', g1, g2, g3, g4, l12, pth, x158, z15, zf, fin⟩ := rest (rfz (pt (pt X 1 (vw 6 I 1)) 17 V1) 3) (fun y q q2 => o17r _ _ _ _ (by omega) q2)
        obtain ⟨D', G', c', y, t', w1, w2, w5⟩ := plain Z l' pth l12 zf.2.1 zf.2.2.1 zf.1
        have yz : y = 0 := by
          rcases w5 with ⟨_, b', _, _, _, cc, _⟩ | ⟨z, _⟩
          · exact absurd bad cc
          · exact z
        subst yz
        refine ⟨-1, _, rfR (rF Z D' G' c') 3, J1, uE, ?_, fin1r (k := 3) fin zf h.2.2.2.1 (by decide) (r17 x186 _ _ 3) (win17r wf _ _ 3) (w2.2.1.T (show T + 10000 ≤ T + 10001 by omega) h30) w2.2.2.1 w2.1⟩
        rw [E_X10_remove]
        simp only [rl.kt, if_true, g1, Option.bind_some, asI_I, if_neg i10, rl.fz, if_neg (td.t13 g2), g4, asV_n, rl.f14, rl.fi, z15, w1, w_refuses rl _ (show (3 : Int32) = nI 3 from rfl) (by decide)]
    · refine absurd hy ?_
      unfold rowO
      rw [if_pos (by rw [u.2.2.1.2.1]; exact Int32.le_refl _)]
      exact (by decide : ¬ (-1 : Int32) = 1)
  · exact Pair.path_no h h30 t1 t2 t3 hy (by decide) (u_remove_no h.1.1 I T4 t1.2.1 hy) Rfs.remove

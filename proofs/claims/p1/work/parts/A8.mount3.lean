/-! A volume mounted: the pair. -/
theorem Rfs.mount' (x : Int32) : Rfs (M_X10_mount [mR (some 188), mI x]) 3 := by
  intro J X X1 y h hp hc
  exact Rfs.mount x J X X1 y h hp (hc.imp id (fun z => z.2))
theorem P_mount {I : MI} {J : MJ} {T B0 : Nat} (h : St I J T B0) (h30 : T + 10001 ≤ 1000000000) (x : Int32) : Pair I J T B0 (M_X9_mount [mR (some 0), mI x]) (M_X10_mount [mR (some 188), mI x]) := by
  obtain ⟨n, t1, t2, t3⟩ := h.2.1
  have T4 := t1.1
  have w1' : vw 6 (tkn I n) 1 = vw 6 I 1 := vw_fr (fun x _ _ => tkn_o I n (by omega) (by omega))
  have w17' : vw 12 (tkn I n) 17 = vw 12 I 17 := vw_fr (fun x _ _ => tkn_o I n (by omega) (by omega))
  by_cases hy : (rowO I n).1 = 1
  · rcases h.2.2.2.2.2.2.2.2.2 with td | u
    · obtain ⟨vol, nn, t, X, J1, hv, i, c, r, k1, kl, rl, wf, x186, rest⟩ := act_pre (n := n) h h30 td t1 t2 t3 hy
      have e1 := wf.1
      have e2 := wf.2.1
      have n60 := i.N.n60
      have vol3 := i.N.v3
      by_cases hvol : q_X2_hasVolume (vw 6 I 1) x = 0
      · refine Pair.path_full h h30 td t1 t2 t3 hy (k := 3) (by decide) (u_mount_vol h.1.1 I T4 t1.2.1 x hy (by rw [w1']; exact hvol)) (fun Y Y1 y1 y2 y3 => ?_)
        have iv := w_isVolume h.1.2 Y1 (td.t13 y3) (by rw [y3 11 (by decide) (by decide) (by decide) (by decide)]; exact hv) vol3.1 vol3.2 i.N.vs x
        rw [E_X10_mount]
        simp only [h.1.2.kt, if_true, y1, Option.bind_some, asI_I, if_neg i10, iv, if_pos hvol, w_refuses h.1.2 _ (show (3 : Int32) = nI 3 from rfl) (by decide)]
      · have x0 : ¬ x < 0 := fun z => hvol (by unfold q_X2_hasVolume; rw [if_pos z])
        have xn : x = nI (ix x) := nI_ix x0
        have xl := ix_lt x
        generalize ix x = v at xn xl
        subst xn
        have v3 : v < 3 := by
          rcases Nat.lt_or_ge v 3 with z | z
          · exact z
          · refine absurd ?_ hvol
            unfold q_X2_hasVolume
            rw [if_neg x0, if_pos (show (3 : Int32) ≤ nI v from Int32.not_lt.mp (nI_nlt (b := 3) z (by omega)))]
        have vv : v < vol := by
          rcases Nat.lt_or_ge v vol with z | z
          · exact z
          · refine absurd ?_ hvol
            unfold q_X2_hasVolume
            rw [if_neg x0, i.N.vs, if_pos (show nI vol ≤ nI v from Int32.not_lt.mp (nI_nlt z (by omega))), ite_self]
        have mq : q_X1_isMounted (vw 12 I 17) (nI v) = if vw 12 I 17 9 v = -1 then 0 else 1 := by
          unfold q_X1_isMounted
          rw [if_neg x0, if_neg (show ¬ (3 : Int32) ≤ nI v from nI_ge (b := 3) v3 (by decide)), ix_nI (by omega)]
        have e5 : (5 : Int32) + nI v = nI (5 + v) := nI_add 5 v
        by_cases m9 : vw 12 I 17 9 v = -1
        · have uE := u_mount h.1.1 I T4 t1.2.1 (nI v) hy (by rw [w1']; exact hvol) (by rw [w17', mq, if_pos m9]) k1 kl
          unfold q_X8_mountAt gV_X8_mountAt at uE
          have px : X = pt X 1 (vw 6 I 1) := by rw [← e1]; exact (pt_vw X 1).symm
          rw [e1, e2] at uE
          have ip := i.T (show T ≤ T + 10000 by omega) (by omega)
          have tT := i.Z.tT
          have plain : ∀ (Z : MI) (l' : Nat), Pth (vw 2 X 158) (Z 192) l' → l' ≤ 12 → Z 188 20 = -1 → Z 188 21 = -1 → Z 194 = I 194 → ∃ D' G' c' y t', M_X10_isPlain [mR (some 188), mR (some 192), mI (nI l')] (Z, J1) = some (some (mI y), (rF Z D' G' c', J1)) ∧ Stq none (vw 6 I 1) (vw 12 I 17) (gV_X1_walk 12 (vw 2 X 158) (vw 6 I 1) (vw 12 I 17) (vw 2 X 158 0 1)) (vw 1 I 29) (wks I 31) D' nn vol t' (T + 10000) 0 (fun _ => 0) ∧ t' ≤ t + 25 ∧ Pla (gV_X1_walk 12 (vw 2 X 158) (vw 6 I 1) (vw 12 I 17) (vw 2 X 158 0 1)) (q_X1_walk 12 (vw 2 X 158) (vw 6 I 1) (vw 12 I 17) (vw 2 X 158 0 1)) y c' := by
            intro Z l' pth l12 z20 z21 zD
            obtain ⟨D', G', c', y, t', w1, w2, w3, w4, w5⟩ := r.isPlain ip c (fun e _ z => absurd rfl z) rl Z (by rw [z20]; exact Or.inl ⟨rfl, fun _ => rfl⟩) z21 (Z 195) (Z 188 22) rl.s14 (by decide) (L := 12) pth l12 (by decide) (by omega) (by omega)
            rw [← zD, rF_id] at w1
            exact ⟨D', G', c', y, t', w1, w2, by omega, w5⟩
          generalize q_X1_walk 12 (vw 2 X 158) (vw 6 I 1) (vw 12 I 17) (vw 2 X 158 0 1) = Q at uE plain
          generalize gV_X1_walk 12 (vw 2 X 158) (vw 6 I 1) (vw 12 I 17) (vw 2 X 158 0 1) = V1 at uE plain
          obtain ⟨Z0, Y0, l0, _, _, _, _, b0, p0, _, _, f0, _⟩ := rest X (fun _ _ _ => rfl)
          obtain ⟨D0, G0, c0, y0, t0, _, s0, tl0, w0⟩ := plain Z0 l0 p0 b0 f0.2.1 f0.2.2.1 f0.1
          have pre : ∀ (I1 Y1 : MI) (Z : MI) (l' : Nat) (y : Int32) (D' G' : RowV) (c' : Int32), M_X10_isPath [mR (some 188)] (I1, J1) = some (some (mI 1), (Y1, J1)) → (∀ k, k ≠ 1 → k ≠ 2 → k ≠ 3 → k ≠ 15 → Y1 188 k = I 188 k) → Y1 194 = I 194 → M_X10_isVolume [mR (some 188), mI (nI v)] (Y1, J1) = some (some (mI (q_X2_hasVolume (vw 6 I 1) (nI v))), (Y1, J1)) ∧ Y1 194 (5 + v) = -1 := by
            intro I1 Y1 Z l' y D' G' c' g1 g2 g3
            refine ⟨w_isVolume rl Y1 (td.t13 g2) (by rw [g2 11 (by decide) (by decide) (by decide) (by decide)]; exact hv) vol3.1 vol3.2 i.N.vs (nI v), ?_⟩
            rw [g3, r.B.rt v v3]
            exact m9
          have nogo : ∀ (V2 : MemV), M_X9_mount [mR (some 0), mI (nI v)] (I, J) = some (some (mI (-1)), (rfz (pt X 17 V2) 3, J1)) → (V2 = V1) → (∀ (Z : MI) (D' G' : RowV) (c' y : Int32) (t' : Nat), Stq none (vw 6 I 1) (vw 12 I 17) V1 (vw 1 I 29) (wks I 31) D' nn vol t' (T + 10000) 0 (fun _ => 0) → Pla V1 Q y c' → y = 0 ∨ M_X10_isFolder [mR (some 188), mI c'] (rF Z D' G' c', J1) = some (some (mI 0), (rF Z D' G' c', J1))) → Pair I J T B0 (M_X9_mount [mR (some 0), mI (nI v)]) (M_X10_mount [mR (some 188), mI (nI v)]) := by
            intro V2 uE2 hV no
            subst hV
            rw [px] at uE2
            obtain ⟨Z, Y1, l', g1, g2, g3, g4, l12, pth, x158, z15, zf, fin⟩ := rest (rfz (pt (pt X 1 (vw 6 I 1)) 17 V2) 3) (fun y q q2 => o17r _ _ _ _ (by omega) q2)
            obtain ⟨D', G', c', y, t', w1, w2, _, w5⟩ := plain Z l' pth l12 zf.2.1 zf.2.2.1 zf.1
            obtain ⟨iv, m5⟩ := pre _ Y1 Z l' y D' G' c' g1 g2 g3
            refine ⟨-1, _, rfR (rF Z D' G' c') 3, J1, uE2, ?_, fin1r (k := 3) fin zf h.2.2.2.1 (by decide) (r17 x186 _ _ 3) (win17r wf _ _ 3) (w2.2.1.T (show T + 10000 ≤ T + 10001 by omega) h30) w2.2.2.1 w2.1⟩
            rw [E_X10_mount]
            simp only [rl.kt, if_true, g1, Option.bind_some, asI_I, if_neg i10, iv, if_neg hvol, rl.f18, rl.ldD _ e5 (show 5 + v < 1853 by omega), m5, g4, asV_n, rl.f14, rl.fi, z15, w1, rF_c, w_refuses rl _ (show (3 : Int32) = nI 3 from rfl) (by decide)]
            rcases no Z D' G' c' y t' w2 w5 with z | z
            · rw [if_pos z]
            · by_cases y0 : y = 0
              · rw [if_pos y0]
              · rw [if_neg y0]
                simp only [z, Option.bind_some, asI_I, if_true, rl.kt, w_refuses rl _ (show (3 : Int32) = nI 3 from rfl) (by decide)]
          rcases w0 with ⟨_, a', _, qa, at', cc, v2, vc⟩ | ⟨y00, bad⟩
          · have a64 := at'.1
            have a0 : ¬ V1 1 a' = 0 := by rw [at'.2.1]; exact i10
            rw [if_neg cc, if_neg cc] at uE
            by_cases fo : q_X1_isFolder (vw 6 I 1) V1 Q = 0
            · rw [if_pos fo, if_pos fo, if_neg (show ¬ (0 : Int32) ≤ -1 by decide)] at uE
              refine nogo V1 uE rfl (fun Z D' G' c' y t' st pl => ?_)
              rcases pl with ⟨_, b', cb, qb, atb, _⟩ | ⟨z, _⟩
              · refine Or.inr ?_
                rw [cb, st.1.isFolder i.N st.2.1.M rl Z G' (nI b') atb, ← qb, fo]
              · exact Or.inl z
            · rw [if_neg fo, if_neg fo, qa] at uE
              have fo4 : ¬ q_X2_isFolder (vw 6 I 1) (V1 4 a') = 0 := fun z => fo (by rw [qa, isF_q a64 a0, if_pos z])
              have m9' : V1 9 v = -1 := by rw [s0.2.2.2.2.1]; exact m9
              have ncl : nc V1 ≤ 63 := by
                have C := s0.2.2.1
                have v0 : v ≠ 0 := fun z => by
                  obtain ⟨r0, r1, r2⟩ := s0.2.1.M.r0
                  rw [z, r2] at m9'
                  exact nI_m1 (by omega) m9'
                have le := cnt_le (fun w => decide (¬ V1 9 w = -1)) 2 1
                have C' : nc V1 ≤ 61 + cnt (fun w => decide (¬ V1 9 w = -1)) 1 2 := C
                omega
              obtain ⟨e, lu⟩ := lu_ex ncl
              obtain ⟨e64, e0, _⟩ := lu_some lu
              obtain ⟨rn, rn1, rn2, rn3, rn4, rn5⟩ := i.N.rts v vv
              have hr : q_X2_rootOf (vw 6 I 1) (nI v) = vw 6 I 1 5 v := by
                unfold q_X2_rootOf
                rw [if_neg hvol, ix_nI (by omega)]
              obtain ⟨cq, a1, a2, a3, a4, a5, a6, a7, a8, a9, a10, b11, b12, b13, b14⟩ := cover_rows v3 a64 a0 lu hr
              have m10 : V1 10 v = -1 := by
                rcases s0.2.1.M.rt v v3 with ⟨_, q⟩ | ⟨_, r0, r64, q2, _⟩
                · exact q
                · rw [m9'] at q2
                  exact absurd q2.symm (nI_m1 (by omega))
              have i2 := s0.2.1.mount (by omega) (by omega) v3 vv m9' at' v2 vc fo4 e64 e0 a1 a2 a3 a4 a5 a6 a8 a9 a10 b11 b12 b14
              rw [cq, if_pos (nI_pos' (show e < 2 ^ 31 by omega)), px] at uE
              generalize gV_X1_cover (vw 6 I 1) V1 (nI a') (nI v) = V3 at uE a1 a2 a3 a4 a5 a6 a7 a8 a9 a10 b11 b12 b13 b14 i2
              obtain ⟨Z, Y1, l', g1, g2, g3, g4, l12, pth, x158, z15, zf, fin⟩ := rest (pt (pt X 1 (vw 6 I 1)) 17 V3) (fun y q _ => o17 _ _ _ (by omega))
              obtain ⟨D', G', c', y, t', w1, w2, _, w5⟩ := plain Z l' pth l12 zf.2.1 zf.2.2.1 zf.1
              obtain ⟨iv, m5⟩ := pre _ Y1 Z l' y D' G' c' g1 g2 g3
              rcases w5 with ⟨y1, b', cb, qb, _⟩ | ⟨_, bad⟩
              · have bb : c' = nI a' := by rw [cb, ← qb, qa]
                subst y1 bb
                have r2 := w2.1.mount w2.2.1 v3 m10 a64 a0 vc e64 e0 a1 a2 a3 a4 a6 a7 a8 a9 a10 b11 b12 b13 b14
                have isf := w2.1.isFolder i.N w2.2.1.M rl Z G' (nI a') at'
                have cI : CntI V3 := by
                  have C : cnt (fun k => decide (¬ V1 1 k = 0)) 0 64 ≤ 61 + cnt (fun w => decide (¬ V1 9 w = -1)) 1 2 := s0.2.2.1
                  have v0 : v ≠ 0 := fun z => by
                    obtain ⟨r0, q1, q2⟩ := s0.2.1.M.r0
                    rw [z, q2] at m9'
                    exact nI_m1 (by omega) m9'
                  have o1 := cnt_one (P := fun k => decide (¬ V1 1 k = 0)) (P' := fun k => decide (¬ V3 1 k = 0)) (e := e) (n := 64) (k := 0) (Nat.zero_le _) (by omega) (fun j _ _ z => by
                    show decide _ = decide _
                    rw [a1, if_neg z])
                  have o2 := cnt_one (P := fun w => decide (¬ V1 9 w = -1)) (P' := fun w => decide (¬ V3 9 w = -1)) (e := v) (n := 2) (k := 1) (by omega) (by omega) (fun j _ _ z => by
                    show decide _ = decide _
                    rw [a9, if_neg z])
                  have x1 : decide (¬ V1 1 e = 0) = false := by rw [e0]; simp
                  have x2 : decide (¬ V3 1 e = 0) = true := by rw [a1, if_pos rfl]; simp
                  have x3 : decide (¬ V1 9 v = -1) = false := by rw [m9']; simp
                  have x4 : decide (¬ V3 9 v = -1) = true := by
                    rw [a9, if_pos rfl]
                    simp only [decide_eq_true_eq]
                    exact nI_m1 (by omega)
                  simp only [x1, x2, if_true, Bool.false_eq_true, if_false] at o1
                  simp only [x3, x4, if_true, Bool.false_eq_true, if_false] at o2
                  unfold CntI
                  omega
                refine ⟨nI e, _, rF Z (moD D' v a' e (vw 6 I 1 5 v)) G' (nI a'), J1, uE, ?_, fin1 fin zf h.2.2.2.1 (by rw [o17 _ _ _ (by decide)]; exact x186) (win17 wf _ _) i2 cI r2⟩
                have ld4 : sD D' (701 + 9 * a' + 7) (nI v) (701 + 9 * a' + 4) = D' (701 + 9 * a' + 4) := sD_n _ _ (by omega)
                have nlu : fst? (fun e => !thQ (sD (sD D' (701 + 9 * a' + 7) (nI v)) (701 + 9 * a' + 4) (D' (701 + 9 * a' + 4) + 1)) e) 0 128 = some e := by
                  rw [← w2.1.B.lu lu]
                  refine fst_cong (fun k _ hk => ?_)
                  unfold thQ
                  rw [sD_n _ _ (by omega), sD_n _ _ (by omega)]
                have en := w_mount_end rl Z (sD (sD D' (701 + 9 * a' + 7) (nI v)) (701 + 9 * a' + 4) (D' (701 + 9 * a' + 4) + 1)) G' (nI a') zf.2.2.1 i.N (fun k hk => by
                  have q := w2.1.B.nd k hk
                  rw [sD_n _ _ (by omega), sD_n _ _ (by omega), sD_n _ _ (by omega), sD_n _ _ (by omega)]
                  exact ⟨q.1, q.2.1⟩) (a := a') v3 rn1 rn2 rn4 rn5 nlu e64
                rw [← rn2] at en
                rw [qa] at fo
                rw [E_X10_mount]
                simp only [rl.kt, if_true, g1, Option.bind_some, asI_I, if_neg i10, iv, if_neg hvol, rl.f18, rl.ldD _ e5 (show 5 + v < 1853 by omega), m5, g4, asV_n, rl.f14, rl.fi, z15, w1, rF_c, isf, if_neg fo, w_entryAt _ a' 7 (show (7 : Int32) = nI 7 from rfl), w_entryAt _ a' 4 (show (4 : Int32) = nI 4 from rfl), rl.stD _ _ (show nI (701 + 9 * a' + 7) = nI (701 + 9 * a' + 7) from rfl) (show 701 + 9 * a' + 7 < 1853 by omega), rF_sD, rl.ldD _ (show nI (701 + 9 * a' + 4) = nI (701 + 9 * a' + 4) from rfl) (show 701 + 9 * a' + 4 < 1853 by omega), rl.stD _ _ (show nI (701 + 9 * a' + 4) = nI (701 + 9 * a' + 4) from rfl) (show 701 + 9 * a' + 4 < 1853 by omega), rF_D, ld4, en]
                rfl
              · exact absurd bad cc
          · rw [if_pos bad, if_pos bad, if_neg (show ¬ (0 : Int32) ≤ -1 by decide)] at uE
            refine nogo V1 uE rfl (fun Z D' G' c' y t' st pl => ?_)
            rcases pl with ⟨_, b', _, _, _, cc, _⟩ | ⟨z, _⟩
            · exact absurd bad cc
            · exact Or.inl z
        · refine Pair.path_full h h30 td t1 t2 t3 hy (k := 3) (by decide) (u_mount_is h.1.1 I T4 t1.2.1 (nI v) hy (by rw [w1']; exact hvol) (by rw [w17', mq, if_neg m9]; exact i10)) (fun Y Y1 y1 y2 y3 => ?_)
          have iv := w_isVolume h.1.2 Y1 (td.t13 y3) (by rw [y3 11 (by decide) (by decide) (by decide) (by decide)]; exact hv) vol3.1 vol3.2 i.N.vs (nI v)
          have m5 : ¬ Y1 194 (5 + v) = -1 := by rw [y2, r.B.rt v v3]; exact m9
          rw [E_X10_mount]
          simp only [h.1.2.kt, if_true, y1, Option.bind_some, asI_I, if_neg i10, iv, if_neg hvol, h.1.2.f18, h.1.2.ldD _ e5 (show 5 + v < 1853 by omega), if_neg m5, w_refuses h.1.2 _ (show (3 : Int32) = nI 3 from rfl) (by decide)]
    · refine absurd hy ?_
      unfold rowO
      rw [if_pos (by rw [u.2.2.1.2.1]; exact Int32.le_refl _)]
      exact (by decide : ¬ (-1 : Int32) = 1)
  · exact Pair.path_no h h30 t1 t2 t3 hy (by decide) (u_mount_no h.1.1 I T4 t1.2.1 x hy) (Rfs.mount' x)

/-! A walk that begins: the pair. -/
theorem P_begin {I : MI} {J : MJ} {T B0 : Nat} (h : St I J T B0) (h30 : T + 10001 ≤ 1000000000) : Pair I J T B0 (M_X9_begin [mR (some 0)]) (M_X10_begin [mR (some 188)]) := by
  obtain ⟨n, t1, t2, t3⟩ := h.2.1
  have T4 := t1.1
  have fI : f_X8_freeWalker (tkn I n) 31 = f_X8_freeWalker I 31 := fst_cong (fun k _ hk => by
    unfold wz
    rw [tkn_o I n (by omega) (by omega)])
  by_cases hy : (rowO I n).1 = 1
  · rcases h.2.2.2.2.2.2.2.2.2 with td | u
    · obtain ⟨vol, nn, t, X, J1, hv, i, c, r, k1, kl, rl, ⟨e1, e2, e3, e4, e16⟩, x186, rest⟩ := act_pre (n := n) h h30 td t1 t2 t3 hy
      have wz1 : ∀ k, k < 4 → I 194 (17 + 96 * k + 0) = wz I 31 k := fun k hk => (r.K k hk).ws
      have td13 : ¬ bz (I 188 13) = 0 := by
        obtain ⟨_, _, _, _, _, z, _⟩ := td
        exact z
      cases hf : f_X8_freeWalker I 31 with
      | none =>
        have full : q_X8_freeWalker (tkn I n) 31 = -1 := by
          unfold q_X8_freeWalker
          rw [fI, hf]
          rfl
        refine Pair.path_full h h30 td t1 t2 t3 hy (k := 5) (by decide) (u_begin_full h.1.1 I T4 t1.2.1 hy full) (fun Y Y1 y1 y2 y3 => ?_)
        have all : cnt (fun k => decide (¬ Y1 194 (17 + 96 * k + 0) = 0)) 0 4 = 4 := by
          rw [cnt_all4]
          intro k hk
          rw [y2, wz1 k hk]
          have := fst_none hf k (Nat.zero_le _) (by omega)
          simpa using this
        have t13 : ¬ bz (Y1 188 13) = 0 := by
          rw [y3 13 (by decide) (by decide) (by decide) (by decide)]
          exact td13
        have wm := w_walkerMany h.1.2 Y1 (fun k hk => by rw [y2, wz1 k hk]; exact bz_or _)
        rw [E_X10_begin]
        simp only [h.1.2.kt, if_true, y1, Option.bind_some, asI_I, if_neg i10, h.1.2.fz, if_neg t13, wm, all]
        rw [if_pos (show nI 4 = 4 from rfl), w_refuses h.1.2 _ (show (5 : Int32) = nI 5 from rfl) (by decide)]
        rfl
      | some k =>
        obtain ⟨_, k4, kq, kmin⟩ := fst_some hf
        have k4 : k < 4 := by omega
        have kq : wz I 31 k = 0 := by simpa using kq
        have fX : f_X8_freeWalker X 31 = some k := by
          rw [← hf]
          exact fst_cong (fun j _ hj => by
            unfold wz
            rw [e4 _ (by omega) (by omega)])
        have nf : ¬ q_X8_freeWalker (tkn I n) 31 = -1 := by
          unfold q_X8_freeWalker
          rw [fI, hf]
          exact nI_m1 (by omega)
        have uE := u_begin h.1.1 I T4 t1.2.1 hy nf k1 kl
        have qX : q_X8_freeWalker X 31 = nI k := by
          unfold q_X8_freeWalker
          rw [fX]
          rfl
        have hX : h_X8_beginWalk X 158 12 31 17 = bgn X 158 12 31 17 k := by
          unfold h_X8_beginWalk
          rw [fX]
        have vK : vw 1 X (31 + 6 * k) = (wks I 31 k).1 := vw_fr (fun y p q => e4 y (by omega) (by omega))
        have vP : vw 2 X (31 + 6 * k + 1) = (wks I 31 k).2.1 := vw_fr (fun y p q => e4 y (by omega) (by omega))
        have vB : vw 3 X (31 + 6 * k + 3) = (wks I 31 k).2.2 := vw_fr (fun y p q => e4 y (by omega) (by omega))
        rw [qX, hX] at uE
        unfold bgn gK_X7_start gP_X7_start gB_X7_start gV_X7_start gK_X7_goToRoot gB_X7_goToRoot gV_X7_goToRoot at uE
        rw [vK, vP, vB, e2] at uE
        have w0 : bz ((wks I 31 k).1 0 5) = 0 := kq
        have ip := i.T (show T ≤ T + 10001 by omega) h30
        have tT := i.Z.tT
        obtain ⟨ro, hr, ra⟩ := i.M.root0 i.N
        obtain ⟨i1, c16, c11, ca, cr1, cr9⟩ := ip.ctr hr ra (by omega)
        generalize hK1 : uv (uv (uv (uv (uv (wks I 31 k).1 0 5 1) 0 6 0) 0 7 0) 0 4 0) 0 8 0 = K1 at uE
        have k14 : K1 0 4 = nI 0 := by rw [← hK1]; rfl
        have k18 : K1 0 8 = nI 0 := by rw [← hK1]; rfl
        have k17 : K1 0 7 = nI 0 := by rw [← hK1]; rfl
        have k15 : K1 0 5 = 1 := by rw [← hK1]; rfl
        have k16 : K1 0 6 = 0 := by rw [← hK1]; rfl
        have uw1 : ¬ bz (K1 0 5) = 0 := by rw [k15]; decide
        have o := tkt_all (m := 0) (tl := 1) (K := K1) (B := (wks I 31 k).2.2) (by omega) (by omega) k14 c16 (fun j hj => by
          have : j = 0 := by omega
          subst this
          exact ⟨ro, c11, ca⟩)
        generalize gK_X7_takeTrail K1 (wks I 31 k).2.2 (gV_X1_comeToRoot (vw 12 I 17)) = K' at uE o
        generalize gB_X7_takeTrail K1 (wks I 31 k).2.2 (gV_X1_comeToRoot (vw 12 I 17)) = B' at uE o
        generalize gV_X7_takeTrail K1 (wks I 31 k).2.2 (gV_X1_comeToRoot (vw 12 I 17)) = V' at uE o
        generalize hP' : gP_X4_copyFrom 12 12 (vw 2 X 158) (wks I 31 k).2.1 = P' at uE
        generalize hI1 : pt (pt (pt (pt X (31 + 6 * k) K') (31 + 6 * k + 1) P') (31 + 6 * k + 3) B') 17 V' = I1 at uE
        have oX : ∀ y, y < 17 ∨ (29 ≤ y ∧ y < 31) ∨ 55 ≤ y → I1 y = X y := fun y q => by rw [← hI1, pt_out (by omega), pt_out (by omega), pt_out (by omega), pt_out (by omega)]
        obtain ⟨Z, Y1, l', g1, g2, g3, g4, l12, pth, x158, z15, zf, fin⟩ := rest I1 (fun y q _ => oX y (by omega))
        have x1 : vw 2 X 158 0 1 = nI l' := x158
        have cp := copy_route (L2 := 12) (L := 12) (P := (wks I 31 k).2.1) x1 l12 l12 (by decide) (by decide)
        rw [hP'] at cp
        have w1 : ∀ (x : OneV × RouV × TriV) j, j ≠ k → wkS (wks I 31) k x j = wks I 31 j := fun x j q => wkS_n _ x q
        have kv : ∀ r : Fin 12, r ≠ 5 → V' r = gV_X1_comeToRoot (vw 12 I 17) r := o.2.2.2.2.1
        obtain ⟨i2, wi2, _⟩ := i1.wnew (W' := wkS (wks I 31) k (K', P', B')) k4 w0 (w1 _) (wkS_s _ _ _) l12 (by omega : 0 ≤ 3) k14 k18 cp.1 k17 uw1 c11 ca o
        have at0 := bgD_at (I 194) (k := k) (Z 192) l12
        have sO : ∀ j, j ≠ 17 + 96 * k + 5 → j ≠ 17 + 96 * k + 3 → sD (sD (bgD (I 194) k l' (Z 192)) (17 + 96 * k + 5) 0) (17 + 96 * k + 3) 0 j = bgD (I 194) k l' (Z 192) j := fun j a b => by rw [sD_n _ _ b, sD_n _ _ a]
        have s5 : sD (sD (bgD (I 194) k l' (Z 192)) (17 + 96 * k + 5) 0) (17 + 96 * k + 3) 0 (17 + 96 * k + 5) = 0 := by rw [sD_n _ _ (by omega), sD_s]
        have r1 : Rel (some k) (vw 6 I 1) (tz (vw 12 I 17)) (vw 1 I 29) (wkS (wks I 31) k (K1, P', (wks I 31 k).2.2)) (sD (sD (bgD (I 194) k l' (Z 192)) (17 + 96 * k + 5) 0) (17 + 96 * k + 3) 0) nn := by
          refine r.wch k4 (Or.inl rfl) (r.tzi.B.dd (fun j q => by rw [sO j (by omega) (by omega), bgD_o _ _ _ _ (by omega)]) (fun _ _ _ _ => rfl) ⟨rfl, rfl, rfl, rfl⟩) (fun j _ _ q => by rw [sO j (by omega) (by omega), bgD_o _ _ _ _ q]) (w1 _) ?_ ⟨0, 0, ?_, ?_, tz_16 _, by omega, by omega, s5, fun j hj => by omega⟩
          · rw [wkS_s]
            refine ⟨?_, fun _ => ⟨?_, ?_, ?_, ?_⟩, fun _ j hj h2 => ?_, fun _ j hj h2 => ?_⟩
            · show _ = bz (K1 0 5)
              rw [sO _ (by omega) (by omega), at0.1, k15]; rfl
            · show _ = bz (K1 0 6)
              rw [sO _ (by omega) (by omega), at0.2.1, k16]; rfl
            · show _ = K1 0 7
              rw [sO _ (by omega) (by omega), at0.2.2.1, k17]; rfl
            · show _ = K1 0 8
              rw [sD_s, k18]; rfl
            · show _ = P' 0 1
              rw [sO _ (by omega) (by omega), at0.2.2.2.1, cp.1]
            · have h2 : j < ix (P' 0 1) := h2
              rw [cp.1, ix_nI (by omega)] at h2
              show NmS (P' 1 j) _
              rw [sO _ (by omega) (by omega), at0.2.2.2.2 j h2, cp.2 j h2]
              exact pth.2 j h2
            · have h2 : j < ix (K1 0 4) := h2
              rw [k14, show ix (nI 0) = 0 from rfl] at h2
              omega
          · rw [wkS_s]; exact uw1
          · rw [wkS_s]; exact k14
        obtain ⟨D', bw, r2⟩ := r1.begW i.N.n60 rl Z zf.2.2.1 (Z 195) (Z 188 22) (by rw [wkS_s]; exact k14) hr ra
        have r3 := r2.tk (W' := wkS (wks I 31) k (K', P', B')) (wkS_s _ _ _) (fun j q => by rw [w1 _ j q, w1 _ j q]) (wkS_s _ _ _) k14 c16 (by omega) (by omega) o
        have r4 := r3.rest ⟨0, by omega, by rw [wkS_s]; exact (o.2.1 7 (by decide)).trans k17⟩
        refine ⟨nI k, _, rF Z D' (Z 195) (nI ro), J1, uE, ?_, fin1 fin zf h.2.2.2.1 (by rw [oX 186 (by omega)]; exact x186) ⟨?_, ?_, ?_, fun j hj => ?_⟩ i2 (c.fr ((kv 1 (by decide)).trans cr1) ((kv 9 (by decide)).trans cr9)) r4⟩
        · have t13 : ¬ bz (Y1 188 13) = 0 := by
            rw [g2 13 (by decide) (by decide) (by decide) (by decide)]
            exact td13
          have wm := w_walkerMany rl Y1 (fun k hk => by rw [g3, wz1 k hk]; exact bz_or _)
          have n4 : ¬ nI (cnt (fun k => decide (¬ Y1 194 (17 + 96 * k + 0) = 0)) 0 4) = 4 := fun z => by
            have le := cnt_le (fun k => decide (¬ Y1 194 (17 + 96 * k + 0) = 0)) 4 0
            have : cnt (fun k => decide (¬ Y1 194 (17 + 96 * k + 0) = 0)) 0 4 = 4 := (nI_eq (b := 4) (by omega) (by decide)).mp z
            rw [cnt_all4] at this
            have := this k k4
            rw [g3, wz1 k k4, kq] at this
            simp at this
          have b34 := w_begin34 rl Z (I 194) (Z 195) (Z 188 22) k4 l12 (fun j hj => by
            rw [wz1 j (by omega)]
            have := kmin j (Nat.zero_le _) hj
            have : ¬ wz I 31 j = 0 := by simpa using this
            exact (bz_or _).resolve_left this) (by rw [wz1 k k4, kq]; decide) z15
          have id : rF Z (I 194) (Z 195) (Z 188 22) = Z := by rw [← zf.1]; exact rF_id _
          rw [id] at b34
          rw [E_X10_begin]
          simp only [rl.kt, if_true, g1, Option.bind_some, asI_I, if_neg i10, rl.fz, if_neg t13, wm, if_neg n4, g4, asV_n, b34, bw]
        · rw [← e1]; exact vw_fr (fun y _ _ => oX y (by omega))
        · rw [← hI1]; exact vw_pt _ _ _
        · rw [← e3]; exact vw_fr (fun y _ _ => oX y (by omega))
        · by_cases z : j = k
          · subst z
            rw [wkS_s]
            have q1 : vw 1 I1 (31 + 6 * j) = K' := by rw [← hI1, vw_out _ _ (by omega), vw_out _ _ (by omega), vw_out _ _ (by omega), vw_pt]
            have q2 : vw 2 I1 (31 + 6 * j + 1) = P' := by rw [← hI1, vw_out _ _ (by omega), vw_out _ _ (by omega), vw_pt]
            have q3 : vw 3 I1 (31 + 6 * j + 3) = B' := by rw [← hI1, vw_out _ _ (by omega), vw_pt]
            have : wks I1 31 j = (K', P', B') := by
              unfold wks
              rw [q1, q2, q3]
            rw [this]
            exact WkEq.refl _
          · rw [w1 _ j z]
            have : wks I1 31 j = wks I 31 j := by
              have f1 : ∀ y, 31 + 6 * j ≤ y → y < 31 + 6 * j + 6 → I1 y = I y := fun y p q => by
                rw [← hI1, pt_out (by omega), pt_out (by omega), pt_out (by omega), pt_out (by omega), e4 y (by omega) (by omega)]
              unfold wks
              rw [vw_fr (N := 1) (I := I) (fun y p q => f1 y (by omega) (by omega)), vw_fr (N := 2) (I := I) (fun y p q => f1 y (by omega) (by omega)), vw_fr (N := 3) (I := I) (fun y p q => f1 y (by omega) (by omega))]
            rw [this]
            exact WkEq.refl _
    · refine absurd hy ?_
      unfold rowO
      rw [if_pos (by rw [u.2.2.1.2.1]; exact Int32.le_refl _)]
      exact (by decide : ¬ (-1 : Int32) = 1)
  · exact Pair.path_no h h30 t1 t2 t3 hy (by decide) (u_begin_no h.1.1 I T4 t1.2.1 hy) Rfs.bgn

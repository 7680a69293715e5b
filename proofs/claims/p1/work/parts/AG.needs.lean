/-! What a path needs, on both sides. -/
theorem P_needs {I : MI} {J : MJ} {T B0 : Nat} (h : St I J T B0) (h30 : T + 10001 ≤ 1000000000) : Pair I J T B0 (M_X9_needs [mR (some 0)]) (M_X10_needs [mR (some 188)]) := by
  obtain ⟨n, t1, t2, t3⟩ := h.2.1
  have T4 := t1.1
  have rl := h.1.2
  have uE := u_needs h.1.1 I T4 t1.2.1
  have no : ∀ y p' l' S', ¬ (rowO I n).1 = 1 → M_X10_isPath [mR (some 188)] (tkn I n, J) = some (some (mI y), (pF (bgP (tkn I n) n) (nI p') (nI l') S', J)) → (y = 0 ∨ bz (I 188 13) = 0) → Pair I J T B0 (M_X9_needs [mR (some 0)]) (M_X10_needs [mR (some 188)]) := by
    intro y p' l' S' hn g1 hc
    rw [if_neg hn] at uE
    have f13 : pF (bgP (tkn I n) n) (nI p') (nI l') S' 188 13 = I 188 13 := by rw [pF_k _ _ _ _ (by decide) (by decide), bgP_k _ _ (by decide) (by decide) (by decide), tkn_o _ _ (by decide) (by decide)]
    refine ⟨-1, _, pF (bgP (tkn I n) n) (nI p') (nI l') S', J, uE, ?_, ?_⟩
    · rw [E_X10_needs]
      simp only [rl.kt, if_true, g1, Option.bind_some, asI_I, rl.fz, f13]
      by_cases z : y = 0
      · rw [if_pos z]
      · rw [if_neg z, if_pos (hc.resolve_left z)]
    · have o : ∀ x, x ≠ 7 → (x < 158 ∨ 183 ≤ x) → x ≠ 188 → x ≠ 192 → pF (bgP (tkn I n) n) (nI p') (nI l') S' x = I x := fun x a b c d => by rw [pF_o _ _ _ _ c d, bgP_o _ _ c, tkn_o _ _ a b]
      refine h.tk h30 (h.2.2.2.1.fr (o 186 (by decide) (by decide) (by decide) (by decide)) (o 190 (by decide) (by decide) (by decide) (by decide))) (fun x a b _ c _ d _ _ _ => o x a b c d) (fun k a b c d _ _ => ?_) ?_ ?_
      · rw [pF_k _ _ _ _ b d, bgP_k _ _ a b c, tkn_o _ _ (by decide) (by decide)]
      · rw [pF_o _ _ _ _ (by decide) (by decide), bgP_o _ _ (by decide)]; exact tkn_7 I n
      · rw [pF_k _ _ _ _ (by decide) (by decide)]; exact (bgP_3 _ _).2.1
  obtain ⟨y0, p0, l0, S0, g0, how0⟩ := path1 (Y := tkn I n) rl t1 (by rw [tkn_o _ _ (by decide) (by decide)]; exact t2) (fun k hk => by rw [tkn_o _ _ (by decide) (by decide)]; exact t3 k hk)
  rcases h.2.2.2.2.2.2.2.2.2 with ⟨vol, ad, p, q, hv, td, ⟨nn, t, i, c, r⟩, hs⟩ | u
  · have h6 : ¬ I 1 6 ≤ 0 := Told.h6 i
    rcases how0 h6 with ⟨hy, _⟩ | ⟨hn, y00⟩
    · rw [if_pos hy] at uE
      have e1 : vw 6 (tkn I n) 1 = vw 6 I 1 := vw_fr (fun x _ _ => tkn_o I n (by omega) (by omega))
      have e2 : vw 12 (tkn I n) 17 = vw 12 I 17 := vw_fr (fun x _ _ => tkn_o I n (by omega) (by omega))
      have e17 : tkn I n 17 13 = I 17 13 := by rw [tkn_o _ _ (by decide) (by decide)]
      unfold tryV at uE
      rw [e1, e2, e17] at uE
      generalize hV' : gV_X1_walk 12 (vw 2 (tkn I n) 158) (vw 6 I 1) (gV_X1_copyFrom (vw 12 I 17) (vw 12 (tkn I n) 55)) (tkn I n 158 1) = V' at uE
      have oT : ∀ x, x < 55 ∨ 67 ≤ x → pt (tkn I n) 55 V' x = tkn I n x := fun x a => pt_out (by omega)
      obtain ⟨y, p', l', S', g1, how⟩ := path1 (Y := pt (tkn I n) 55 V') rl t1 (by rw [oT _ (by omega), tkn_o _ _ (by decide) (by decide)]; exact t2) (fun k hk => by rw [oT _ (by omega), tkn_o _ _ (by decide) (by decide)]; exact t3 k hk)
      rcases how h6 with ⟨_, y1, l12, pth⟩ | ⟨z, _⟩
      · subst y1
        have eP : vw 2 (tkn I n) 158 = vw 2 (rowO I n).2 158 := vw_fr (fun x _ _ => tkn_r I n (by omega) (by omega))
        rw [← eP] at pth
        have l158 : tkn I n 158 1 = nI l' := pth.1
        have vc := VEq.copy (vw 12 I 17) (vw 12 (tkn I n) 55)
        generalize gV_X1_copyFrom (vw 12 I 17) (vw 12 (tkn I n) 55) = Vc at hV' vc
        have wr : ∀ k, k < 4 → WkEq (wks I 31 k) (wks I 31 k) := fun k _ => WkEq.refl _
        have ic := ((i.T (show T ≤ T + 10001 by omega) h30).cg (UEq.refl _) vc (fun _ _ => rfl) wr)
        have rc := r.cg i.N.n60 (UEq.refl _) vc (fun _ _ => rfl) wr (fun _ _ => rfl)
        have cc := c.cg vc
        have tT := i.Z.tT
        have yo : ∀ x, x ≠ 188 → x ≠ 192 → pF (bgP (pt (tkn I n) 55 V') n) (nI p') (nI l') S' x = pt (tkn I n) 55 V' x := fun x a b => by rw [pF_o _ _ _ _ a b, bgP_o _ _ a]
        have yk : ∀ k, k ≠ 1 → k ≠ 2 → k ≠ 3 → k ≠ 15 → pF (bgP (pt (tkn I n) 55 V') n) (nI p') (nI l') S' 188 k = I 188 k := fun k a b d e => by rw [pF_k _ _ _ _ b e, bgP_k _ _ a b d, oT _ (by omega), tkn_o _ _ (by decide) (by decide)]
        have y15 : pF (bgP (pt (tkn I n) 55 V') n) (nI p') (nI l') S' 188 15 = nI l' := pF_15 _ _ _ _
        have yS : pF (bgP (pt (tkn I n) 55 V') n) (nI p') (nI l') S' 192 = S' := pF_S _ _ _ _
        have y11 : pF (bgP (pt (tkn I n) 55 V') n) (nI p') (nI l') S' 188 1 = 0 := by rw [pF_k _ _ _ _ (by decide) (by decide)]; exact (bgP_3 _ _).2.1
        generalize hY : pF (bgP (pt (tkn I n) 55 V') n) (nI p') (nI l') S' = Y1 at g1 yo yk y15 yS y11
        have pa := w_putsAside rl Y1
        have ao : ∀ x, x ≠ 196 → itr (rcp 194 196) 0 1853 Y1 x = Y1 x := fun x a => rcp_o 1853 0 Y1 a
        have a6 : ∀ j, j < 1853 → itr (rcp 194 196) 0 1853 Y1 196 j = Y1 194 j := fun j hj => by rw [rcp_at (by decide) 1853 0 Y1 j, if_pos (by omega)]
        generalize itr (rcp 194 196) 0 1853 Y1 = Y2 at pa ao a6
        have y94 : Y2 194 = I 194 := by rw [ao 194 (by decide), yo 194 (by decide) (by decide), oT _ (by omega), tkn_o _ _ (by decide) (by decide)]
        have s8 := h.2.2.2.2.2.2.2.2.1
        have y20 : Y2 188 20 = -1 := by rw [ao 188 (by decide), yk 20 (by decide) (by decide) (by decide) (by decide)]; exact s8.1
        have y21 : Y2 188 21 = -1 := by rw [ao 188 (by decide), yk 21 (by decide) (by decide) (by decide) (by decide)]; exact s8.2
        have y2S : Y2 192 = S' := by rw [ao 192 (by decide), yS]
        obtain ⟨D', G', c', how', t', w1, w2, w3, w4, w5⟩ := rc.walks ic cc (fun e _ z => absurd rfl z) rl Y2 (by rw [y20]; exact Or.inl ⟨rfl, fun _ => rfl⟩) y21 (Y2 195) (Y2 188 22) rl.s14 (by decide) (P := vw 2 (tkn I n) 158) (lp := l') (m := l') (L := 12) pth.1 (Nat.le_refl _) l12 (by decide) (by omega) (fun k hk => by rw [y2S]; exact pth.2 k hk) (tkn I n 158 1) (by rw [l158, ix_nI (by omega)]) (by omega)
        rw [← y94, rF_id] at w1
        rw [hV'] at w2
        have tb := w_takesBack rl (rF Y2 D' G' c')
        have bo : ∀ x, x ≠ 194 → itr (rcp 196 194) 0 1853 (rF Y2 D' G' c') x = rF Y2 D' G' c' x := fun x a => rcp_o 1853 0 _ a
        have b4 : ∀ j, j < 1853 → itr (rcp 196 194) 0 1853 (rF Y2 D' G' c') 194 j = I 194 j := fun j hj => by
          rw [rcp_at (by decide) 1853 0 _ j, if_pos (by omega), rF_o _ _ _ _ (by decide) (by decide) (by decide), a6 j hj, yo 194 (by decide) (by decide), oT _ (by omega), tkn_o _ _ (by decide) (by decide)]
        generalize itr (rcp 196 194) 0 1853 (rF Y2 D' G' c') = Y3 at tb bo b4
        have o2 : ∀ x, x ≠ 7 → (x < 55 ∨ 67 ≤ x) → (x < 158 ∨ 183 ≤ x) → x ≠ 188 → x ≠ 192 → x ≠ 194 → x ≠ 195 → x ≠ 196 → Y3 x = I x := fun x h7 h55 h158 h188 h192 h194 h195 h196 => by
          rw [bo x h194, rF_o _ _ _ _ h188 h194 h195, ao x h196, yo x h188 h192, oT x h55, tkn_o _ _ h7 h158]
        have k2 : ∀ k, k ≠ 1 → k ≠ 2 → k ≠ 3 → k ≠ 15 → k ≠ 22 → Y3 188 k = I 188 k := fun k h1 h2 h3 h15 h22 => by
          rw [bo 188 (by decide), rF_k _ _ _ _ h22, ao 188 (by decide), yk k h1 h2 h3 h15]
        have f13 : ¬ bz (Y1 188 13) = 0 := by rw [yk 13 (by decide) (by decide) (by decide) (by decide)]; exact td
        have ld196 : ld (rF Y2 D' G' c', J) 11 196 1 = some (I 194 1) := by
          rw [ld_ok _ rl.s23 (by decide), rF_o _ _ _ _ (by decide) (by decide) (by decide), a6 _ (by decide), yo 194 (by decide) (by decide), oT _ (by omega), tkn_o _ _ (by decide) (by decide)]
          rfl
        obtain ⟨L, s7⟩ := h.2.2.2.2.2.2.2.1
        refine ⟨_, _, Y3, J, uE, ?_, ?_⟩
        · rw [E_X10_needs]
          simp only [rl.kt, if_true, g1, Option.bind_some, asI_I, if_neg i10, rl.fz, if_neg f13, pa, asV_n, rl.f14, rl.fi, show Y2 188 15 = nI l' by rw [ao 188 (by decide)]; exact y15, w1, rl.f18, rl.ldD _ (show (1 : Int32) = nI 1 from rfl) (show 1 < 1853 by decide), rF_D, rl.f23, ld196, tb, w2.1.B.lo, r.B.lo]
          rfl
        · refine h.sm ⟨0, ⟨by omega, ?_, fun k hk => by omega⟩, ?_, fun k hk => by omega⟩ (h.2.2.1.fr (o2 _ (by decide) (by decide) (by decide) (by decide) (by decide) (by decide) (by decide) (by decide)) (k2 _ (by decide) (by decide) (by decide) (by decide) (by decide)) (k2 _ (by decide) (by decide) (by decide) (by decide) (by decide))) (h.2.2.2.1.fr (o2 _ (by decide) (by decide) (by decide) (by decide) (by decide) (by decide) (by decide) (by decide)) (o2 _ (by decide) (by decide) (by decide) (by decide) (by decide) (by decide) (by decide) (by decide))) (h.2.2.2.2.1.fr (by rw [o2 0 (by decide) (by decide) (by decide) (by decide) (by decide) (by decide) (by decide) (by decide)]) (o2 _ (by decide) (by decide) (by decide) (by decide) (by decide) (by decide) (by decide) (by decide)) (k2 _ (by decide) (by decide) (by decide) (by decide) (by decide)) (o2 _ (by decide) (by decide) (by decide) (by decide) (by decide) (by decide) (by decide) (by decide))) (h.2.2.2.2.2.1.fr (by rw [o2 0 (by decide) (by decide) (by decide) (by decide) (by decide) (by decide) (by decide) (by decide)]) (o2 _ (by decide) (by decide) (by decide) (by decide) (by decide) (by decide) (by decide) (by decide)) (k2 _ (by decide) (by decide) (by decide) (by decide) (by decide)) (o2 _ (by decide) (by decide) (by decide) (by decide) (by decide) (by decide) (by decide) (by decide))) ⟨L, s7.fr (by rw [o2 69 (by decide) (by decide) (by decide) (by decide) (by decide) (by decide) (by decide) (by decide)]) (by rw [o2 69 (by decide) (by decide) (by decide) (by decide) (by decide) (by decide) (by decide) (by decide)]) (fun y _ _ => o2 y (by omega) (by omega) (by omega) (by omega) (by omega) (by omega) (by omega) (by omega)) (k2 _ (by decide) (by decide) (by decide) (by decide) (by decide)) (k2 _ (by decide) (by decide) (by decide) (by decide) (by decide)) (o2 _ (by decide) (by decide) (by decide) (by decide) (by decide) (by decide) (by decide) (by decide)) (o2 _ (by decide) (by decide) (by decide) (by decide) (by decide) (by decide) (by decide) (by decide))⟩ (s8.fr (k2 _ (by decide) (by decide) (by decide) (by decide) (by decide)) (k2 _ (by decide) (by decide) (by decide) (by decide) (by decide))) (fun y a b _ _ _ _ => o2 y (by omega) (by omega) (by omega) (by omega) (by omega) (by omega) (by omega) (by omega)) (o2 _ (by decide) (by decide) (by decide) (by decide) (by decide) (by decide) (by decide) (by decide)) (fun _ => ⟨by rw [o2 69 (by decide) (by decide) (by decide) (by decide) (by decide) (by decide) (by decide) (by decide)], by rw [o2 69 (by decide) (by decide) (by decide) (by decide) (by decide) (by decide) (by decide) (by decide)]⟩) (fun y a => o2 y (by omega) (by omega) (by omega) (by omega) (by omega) (by omega) (by omega) (by omega)) (fun k q => k2 k (by omega) (by omega) (by omega) (by omega) (by omega)) (fun k hk => b4 k hk) (o2 _ (by decide) (by decide) (by decide) (by decide) (by decide) (by decide) (by decide) (by decide)) (by omega) h30
          · show Y3 (7 + 0) 1 = nI 0
            rw [bo _ (by decide), rF_o _ _ _ _ (by decide) (by decide) (by decide), ao _ (by decide), yo _ (by decide) (by decide), oT _ (by omega)]
            exact tkn_7 I n
          · rw [bo _ (by decide), rF_k _ _ _ _ (by decide), ao _ (by decide)]
            exact y11
      · exact absurd hy z
    · exact no y0 p0 l0 S0 hn g0 (Or.inl y00)
  · refine no y0 p0 l0 S0 ?_ g0 (Or.inr u.2.1)
    unfold rowO
    rw [if_pos (by rw [u.2.2.1.2.1]; exact Int32.le_refl _)]
    exact (by decide : ¬ (-1 : Int32) = 1)

/-! Where a path comes to: the pair. -/
theorem where_loop {U : NodV} {V0 : MemV} {H : OneV} {W : WkV} {n vol t0 T T0 l : Nat} {J : MJ} (h : RefL J) (Y : MI) (r0 : Rel none U V0 H W (Y 194) n) (i0 : Inv U V0 H W n vol t0 T0 (fun _ => 0)) (y11 : Y 188 11 = nI vol) (y15 : Y 188 15 = nI l) (l12 : l ≤ 12) {P : RouV} (hp : P 0 1 = nI l) (hst : ∀ k, k < l → NmS (P 1 k) (Y 192 k)) (x2 : Int32) : ∀ (nn j : Nat) (V : MemV) (D' : RowV) (t a k : Nat), j + nn = l → Rel none U V H W D' n → Inv U V H W n vol t T (fun _ => 0) → CntI V → Wnd V0 V → At V a → V 4 a = nI k → k < n → t + 2 * nn ≤ T → ∃ rr, Ev T_X10_where 20 [some (mR (some 188)), some (mI (nI k)), some (mI (nI j))] [] (Y, J) = some (some (mI rr), (Y, J)) ∧ ((∃ a' k', (lp_X1_walk_8 12 P U x2 nn j (nI a) V).1 = nI a' ∧ At (lp_X1_walk_8 12 P U x2 nn j (nI a) V).2 a' ∧ (lp_X1_walk_8 12 P U x2 nn j (nI a) V).2 4 a' = nI k' ∧ rr = nI k') ∨ ((lp_X1_walk_8 12 P U x2 nn j (nI a) V).1 = rr ∧ (rr = -2 ∨ rr = -3))) := by
  intro nn
  induction nn with
  | zero =>
    intro j V D' t a k hj r i C w ha hk kn tT
    refine ⟨nI k, ?_, Or.inl ⟨a, k, rfl, ha, hk, rfl⟩⟩
    rw [E_X10_where_20]
    simp only [h.fi, y15, Option.bind_some, if_pos (nI_le (show l ≤ j by omega) (by omega))]
  | succ nn ih =>
    intro j V D' t a k hj r i C w ha hk kn tT
    have n60 := i.N.n60
    have hs := hst j (by omega)
    obtain ⟨rr, e1, e2, D2, t2, r2, i2, C2, w2, tt⟩ := where_step h Y r0 i0 y11 r i C w ha hk kn hs (by omega)
    have sa : q_X4_stepAt 12 P (nI j) = P 1 j := stepAt_k hp (by omega) (by omega) (by decide)
    have lp : lp_X1_walk_8 12 P U x2 (nn + 1) j (nI a) V = lp_X1_walk_8 12 P U x2 nn (j + 1) (q_X1_stepFrom U V (nI a) (P 1 j)) (gV_X1_stepFrom U V (nI a) (P 1 j)) := by
      show (if (nI a) < 0 then ((nI a), V) else _) = _
      rw [if_neg (nI_pos (show a < 2 ^ 31 by have := ha.1; omega)), sa]
    have l192 : ld (Y, J) 11 192 (nI j) = some (Y 192 j) := by
      rw [ld_ok _ h.s14 (inb_nI (show j < 64 by omega) (by decide)), show (nI j).toNatClampNeg = j from ix_nI (by omega)]
    have ev : Ev T_X10_where 20 [some (mR (some 188)), some (mI (nI k)), some (mI (nI j))] [] (Y, J) = Ev T_X10_where 20 [some (mR (some 188)), some (mI rr), some (mI (nI (j + 1)))] [] (Y, J) := by
      rw [E_X10_where_20]
      simp only [h.fi, y15, Option.bind_some, if_neg (nI_ge (show j < l by omega) (by omega)), if_neg (nI_pos (show k < 2 ^ 31 by omega)), h.f14, l192, h.kt, if_true, e1, asI_I, nI_1]
    rw [ev, lp]
    rcases e2 with ⟨a', k', qa, at', v4, kn', ra⟩ | ⟨qr, hr⟩
    · rw [qa, ra]
      exact ih (j + 1) _ D2 t2 a' k' (by omega) r2 i2 C2 w2 at' v4 kn' (by omega)
    · rw [qr]
      have neg : rr < 0 := by rcases hr with z | z <;> rw [z] <;> decide
      have lz : lp_X1_walk_8 12 P U x2 nn (j + 1) rr (gV_X1_stepFrom U V (nI a) (P 1 j)) = (rr, gV_X1_stepFrom U V (nI a) (P 1 j)) := by
        cases nn with
        | zero => rfl
        | succ nn => exact if_pos neg
      rw [lz]
      refine ⟨rr, ?_, Or.inr ⟨rfl, hr⟩⟩
      rw [E_X10_where_20]
      simp only [h.fi, y15, Option.bind_some]
      by_cases z : nI l ≤ nI (j + 1)
      · rw [if_pos z]
      · rw [if_neg z, if_pos neg]
theorem P_where {I : MI} {J : MJ} {T B0 : Nat} (h : St I J T B0) (h30 : T + 10001 ≤ 1000000000) : Pair I J T B0 (M_X9_where [mR (some 0)]) (M_X10_where [mR (some 188)]) := by
  obtain ⟨n, t1, t2, t3⟩ := h.2.1
  have T4 := t1.1
  have rl := h.1.2
  have uE := u_where h.1.1 I T4 t1.2.1
  have no : ∀ y p' l' S', ¬ (rowO I n).1 = 1 → M_X10_isPath [mR (some 188)] (tkn I n, J) = some (some (mI y), (pF (bgP (tkn I n) n) (nI p') (nI l') S', J)) → (y = 0 ∨ bz (I 188 13) = 0) → Pair I J T B0 (M_X9_where [mR (some 0)]) (M_X10_where [mR (some 188)]) := by
    intro y p' l' S' hn g1 hc
    rw [if_neg hn] at uE
    have f13 : pF (bgP (tkn I n) n) (nI p') (nI l') S' 188 13 = I 188 13 := by rw [pF_k _ _ _ _ (by decide) (by decide), bgP_k _ _ (by decide) (by decide) (by decide), tkn_o _ _ (by decide) (by decide)]
    refine ⟨-1, _, pF (bgP (tkn I n) n) (nI p') (nI l') S', J, uE, ?_, ?_⟩
    · rw [E_X10_where]
      simp only [rl.kt, if_true, g1, Option.bind_some, asI_I, rl.fz, f13]
      by_cases z : y = 0
      · rw [if_pos z]
      · rw [if_neg z, if_pos (hc.resolve_left z)]
    · have o : ∀ x, x ≠ 7 → (x < 158 ∨ 183 ≤ x) → x ≠ 188 → x ≠ 192 → pF (bgP (tkn I n) n) (nI p') (nI l') S' x = I x := fun x a b c d => by rw [pF_o _ _ _ _ c d, bgP_o _ _ c, tkn_o _ _ a b]
      refine h.tk h30 (h.2.2.2.1.fr (o 186 (by decide) (by decide) (by decide) (by decide)) (o 190 (by decide) (by decide) (by decide) (by decide))) (fun x a b _ c _ d _ _ _ => o x a b c d) (fun k a b c d _ _ => ?_) ?_ ?_
      · rw [pF_k _ _ _ _ b d, bgP_k _ _ a b c, tkn_o _ _ (by decide) (by decide)]
      · rw [pF_o _ _ _ _ (by decide) (by decide), bgP_o _ _ (by decide)]; exact tkn_7 I n
      · rw [pF_k _ _ _ _ (by decide) (by decide)]; exact (bgP_3 _ _).2.1
  obtain ⟨y0, p0, l0, S0, g0, how0⟩ := path1 (Y := tkn I n) rl t1 (by rw [tkn_o _ _ (by decide) (by decide)]; exact t2) (fun k hk => by rw [tkn_o _ _ (by decide) (by decide)]; exact t3 k hk)
  rcases h.2.2.2.2.2.2.2.2.2 with ⟨vol, ad, p, q, hv, td, ⟨nn, t, i, c, r⟩, hs⟩ | u
  · have h6 : ¬ I 1 6 ≤ 0 := Told.h6 i
    rcases how0 h6 with ⟨hy, _⟩ | ⟨hn, y00⟩
    · rw [if_pos hy] at uE
      have e1 : vw 6 (tkn I n) 1 = vw 6 I 1 := vw_fr (fun x _ _ => tkn_o I n (by omega) (by omega))
      have e2 : vw 12 (tkn I n) 17 = vw 12 I 17 := vw_fr (fun x _ _ => tkn_o I n (by omega) (by omega))
      unfold tryV tryQ at uE
      rw [e1, e2] at uE
      have vc := VEq.copy (vw 12 I 17) (vw 12 (tkn I n) 55)
      generalize gV_X1_copyFrom (vw 12 I 17) (vw 12 (tkn I n) 55) = Vc at uE vc
      generalize hV' : gV_X1_walk 12 (vw 2 (tkn I n) 158) (vw 6 I 1) Vc (tkn I n 158 1) = V' at uE
      generalize hQ : q_X1_walk 12 (vw 2 (tkn I n) 158) (vw 6 I 1) Vc (tkn I n 158 1) = Q at uE
      have oT : ∀ x, x < 55 ∨ 67 ≤ x → pt (tkn I n) 55 V' x = tkn I n x := fun x a => pt_out (by omega)
      obtain ⟨y, p', l', S', g1, how⟩ := path1 (Y := pt (tkn I n) 55 V') rl t1 (by rw [oT _ (by omega), tkn_o _ _ (by decide) (by decide)]; exact t2) (fun k hk => by rw [oT _ (by omega), tkn_o _ _ (by decide) (by decide)]; exact t3 k hk)
      rcases how h6 with ⟨_, y1, l12, pth⟩ | ⟨z, _⟩
      · subst y1
        have eP : vw 2 (tkn I n) 158 = vw 2 (rowO I n).2 158 := vw_fr (fun x _ _ => tkn_r I n (by omega) (by omega))
        rw [← eP] at pth
        have l158 : tkn I n 158 1 = nI l' := pth.1
        have wr : ∀ k, k < 4 → WkEq (wks I 31 k) (wks I 31 k) := fun k _ => WkEq.refl _
        have ic := ((i.T (show T ≤ T + 10001 by omega) h30).cg (UEq.refl _) vc (fun _ _ => rfl) wr)
        have rc := r.cg i.N.n60 (UEq.refl _) vc (fun _ _ => rfl) wr (fun _ _ => rfl)
        have cc := c.cg vc
        have tT := i.Z.tT
        have yo : ∀ x, x ≠ 188 → x ≠ 192 → pF (bgP (pt (tkn I n) 55 V') n) (nI p') (nI l') S' x = pt (tkn I n) 55 V' x := fun x a b => by rw [pF_o _ _ _ _ a b, bgP_o _ _ a]
        have yk : ∀ k, k ≠ 1 → k ≠ 2 → k ≠ 3 → k ≠ 15 → pF (bgP (pt (tkn I n) 55 V') n) (nI p') (nI l') S' 188 k = I 188 k := fun k a b d e => by rw [pF_k _ _ _ _ b e, bgP_k _ _ a b d, oT _ (by omega), tkn_o _ _ (by decide) (by decide)]
        have y15 : pF (bgP (pt (tkn I n) 55 V') n) (nI p') (nI l') S' 188 15 = nI l' := pF_15 _ _ _ _
        have yS : pF (bgP (pt (tkn I n) 55 V') n) (nI p') (nI l') S' 192 = S' := pF_S _ _ _ _
        have y11' : pF (bgP (pt (tkn I n) 55 V') n) (nI p') (nI l') S' 188 1 = 0 := by rw [pF_k _ _ _ _ (by decide) (by decide)]; exact (bgP_3 _ _).2.1
        generalize hY : pF (bgP (pt (tkn I n) 55 V') n) (nI p') (nI l') S' = Y1 at g1 yo yk y15 yS y11'
        have y94 : Y1 194 = I 194 := by rw [yo 194 (by decide) (by decide), oT _ (by omega), tkn_o _ _ (by decide) (by decide)]
        have f13 : ¬ bz (Y1 188 13) = 0 := by rw [yk 13 (by decide) (by decide) (by decide) (by decide)]; exact td
        have f11 : Y1 188 11 = nI vol := by rw [yk 11 (by decide) (by decide) (by decide) (by decide)]; exact hv
        -- from the root on
        obtain ⟨ro, hr, ra⟩ := ic.M.root0 ic.N
        obtain ⟨i1, c16, c11, ca, cr1, cr9⟩ := ic.ctr hr ra (by omega)
        obtain ⟨D3, w3, r3, _, _⟩ := rc.tzi.come i.N.n60 rl (fun _ _ => -1) rfl (fun _ => 0) 0 (tl := 0) (TlI.none _ _ _) (by decide) ra.1 (by rw [tz_k _ 1 (by decide), ra.2.1]; exact i10)
        have ge : gV_X1_comeToRoot Vc = gV_X1_comeTo (tz Vc) (nI ro) := by
          unfold gV_X1_comeToRoot
          rw [hr]
          rfl
        rw [← ge] at r3
        have k4 : ∀ f, gV_X1_comeToRoot Vc 4 f = Vc 4 f := fun f => by rw [ge, cT_k _ _ _ (by decide) (by decide) (by decide), tz_k _ 4 (by decide)]
        have k10 : gV_X1_comeToRoot Vc 10 = Vc 10 := by rw [ge, cT_k _ _ _ (by decide) (by decide) (by decide), tz_k _ 10 (by decide)]
        obtain ⟨rn, s1, s2, s3, s4, s5⟩ := i.N.rts 0 (by have := i.N.v3; omega)
        have ro4 : Vc 4 ro = nI rn := by
          rcases ic.M.rt 0 (by decide) with ⟨z, _⟩ | ⟨_, r', a1, a2, a3, a4, a5⟩
          · rw [hr] at z
            exact absurd z (nI_m1 (by have := ra.1; omega))
          · have : r' = ro := (nI_eq (by omega) (by have := ra.1; omega)).mp (a2.symm.trans hr)
            subst this
            rw [a5]; exact s2
        have rc0 : Rel none (vw 6 I 1) Vc (vw 1 I 29) (wks I 31) (Y1 194) nn := by rw [y94]; exact rc
        have cq : q_X1_comeToRoot Vc = nI ro := by
          show gV_X1_comeToRoot Vc 9 0 = nI ro
          rw [cr9]; exact hr
        have rn0 : rn = 0 := (nI_eq (by have := i.N.n60; omega) (by omega)).mp (s2.symm.trans i.N.r00)
        obtain ⟨rr, ev, alt⟩ := where_loop (T := T + 10001) rl Y1 rc0 ic f11 y15 l12 (P := vw 2 (tkn I n) 158) pth.1 (fun k hk => by rw [yS]; exact pth.2 k hk) (tkn I n 158 1) l' 0 _ D3 (t + 1) ro rn (by omega) r3 i1 (cc.fr cr1 cr9) ⟨cr9, k10, fun v o _ _ _ => k4 o⟩ ca (by rw [k4]; exact ro4) s1 (by omega)
        have wE : o_X1_walk 12 (vw 2 (tkn I n) 158) (vw 6 I 1) Vc (tkn I n 158 1) = lp_X1_walk_8 12 (vw 2 (tkn I n) 158) (vw 6 I 1) (tkn I n 158 1) l' 0 (nI ro) (gV_X1_comeToRoot Vc) := by
          unfold o_X1_walk
          rw [cq, show ix (tkn I n 158 1) = l' by rw [l158, ix_nI (by omega)]]
        have hV'' : (lp_X1_walk_8 12 (vw 2 (tkn I n) 158) (vw 6 I 1) (tkn I n 158 1) l' 0 (nI ro) (gV_X1_comeToRoot Vc)).2 = V' := by rw [← wE]; exact hV'
        have hQ'' : (lp_X1_walk_8 12 (vw 2 (tkn I n) 158) (vw 6 I 1) (tkn I n 158 1) l' 0 (nI ro) (gV_X1_comeToRoot Vc)).1 = Q := by rw [← wE]; exact hQ
        rw [hV'', hQ''] at alt
        have ans : (if 0 ≤ Q then q_X1_nodeOf V' Q else Q) = rr := by
          rcases alt with ⟨a', k', qa, at', v4, ra'⟩ | ⟨qr, hr'⟩
          · rw [qa, if_pos (nI_pos' (show a' < 2 ^ 31 by have := at'.1; omega)), ra']
            unfold q_X1_nodeOf
            rw [Inv.isE at'.1 (by rw [at'.2.1]; exact i10), if_neg i10, ix64 at'.1, v4]
          · rw [qr, if_neg (by rcases hr' with z | z <;> rw [z] <;> decide)]
        rw [ans] at uE
        rw [rn0] at ev
        refine ⟨rr, _, Y1, J, uE, ?_, ?_⟩
        · rw [E_X10_where]
          simp only [rl.kt, if_true, g1, Option.bind_some, asI_I, if_neg i10, rl.fz, if_neg f13]
          exact ev
        · have o2 : ∀ x, x ≠ 7 → (x < 55 ∨ 67 ≤ x) → (x < 158 ∨ 183 ≤ x) → x ≠ 188 → x ≠ 192 → Y1 x = I x := fun x h7 h55 h158 h188 h192 => by rw [yo x h188 h192, oT x h55, tkn_o _ _ h7 h158]
          refine h.qq h30 (S1.emp ?_ y11') (h.2.2.2.1.fr (o2 _ (by decide) (by decide) (by decide) (by decide) (by decide)) (o2 _ (by decide) (by decide) (by decide) (by decide) (by decide))) (fun x w => ?_) (fun j w => ?_) (fun j _ => by rw [y94])
          · rw [yo 7 (by decide) (by decide), oT 7 (by omega)]
            exact tkn_7 I n
          · unfold OkC at w
            exact o2 x (by omega) (by omega) (by omega) (by omega) (by omega)
          · unfold OkK at w
            exact yk j (by omega) (by omega) (by omega) (by omega)
      · exact absurd hy z
    · exact no y0 p0 l0 S0 hn g0 (Or.inl y00)
  · refine no y0 p0 l0 S0 ?_ g0 (Or.inr u.2.1)
    unfold rowO
    rw [if_pos (by rw [u.2.2.1.2.1]; exact Int32.le_refl _)]
    exact (by decide : ¬ (-1 : Int32) = 1)

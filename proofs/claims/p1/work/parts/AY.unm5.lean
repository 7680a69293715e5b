/-! A volume unmounted: the pair. -/
theorem P_unmount {I : MI} {J : MJ} {T B0 : Nat} (h : St I J T B0) (h30 : T + 10001 ≤ 1000000000) (x : Int32) : Pair I J T B0 (M_X9_unmount [mR (some 0), mI x]) (M_X10_unmount [mR (some 188), mI x]) := by
  rcases h.2.2.2.2.2.2.2.2.2 with td | u
  · have td' := td
    obtain ⟨vol0, ad, p, q, hv0, td13, _, hs⟩ := td'
    obtain ⟨vol, nn, t, X, J1, hv, i, c, r, k1, kl, rl, wf, xo, j6, _, rest⟩ := act_pre0 h h30 td
    have e1 := wf.1
    have e2 := wf.2.1
    have e3 := wf.2.2.1
    have e4 := wf.2.2.2.1
    have n60 := i.N.n60
    have vol3 := i.N.v3
    have refs : ∀ (Y : MI), Y 188 13 = I 188 13 → Y 188 11 = I 188 11 → Y 194 = I 194 → (x = 0 ∨ q_X2_hasVolume (vw 6 I 1) x = 0 ∨ ∃ v, v < 3 ∧ x = nI v ∧ I 194 (5 + v) = -1) → M_X10_unmount [mR (some 188), mI x] (Y, J) = some (some (mI (-1)), (rfR Y 3, J)) := fun Y y13 y11 y94 hc => by
      have iv := w_isVolume h.1.2 Y (by rw [y13]; exact td13) (by rw [y11]; exact hv) vol3.1 vol3.2 i.N.vs x
      rw [E_X10_unmount]
      simp only [h.1.2.kt, if_true, iv, Option.bind_some, asI_I, w_refuses h.1.2 Y (show (3 : Int32) = nI 3 from rfl) (by decide)]
      by_cases a : q_X2_hasVolume (vw 6 I 1) x = 0
      · rw [if_pos a]
      · rw [if_neg a]
        by_cases b : x = 0
        · rw [if_pos b]
        · rw [if_neg b]
          obtain ⟨v, v3, xv, dv⟩ := (hc.resolve_left b).resolve_left a
          subst xv
          have e5 : (5 : Int32) + nI v = nI (5 + v) := nI_add 5 v
          simp only [h.1.2.f18, Option.bind_some, h.1.2.ldD _ e5 (show 5 + v < 1853 by omega), y94, dv, if_true]
    have no : (x = 0 ∨ q_X1_isMounted (vw 12 I 17) x = 0) → (x = 0 ∨ q_X2_hasVolume (vw 6 I 1) x = 0 ∨ ∃ v, v < 3 ∧ x = nI v ∧ I 194 (5 + v) = -1) → Pair I J T B0 (M_X9_unmount [mR (some 0), mI x]) (M_X10_unmount [mR (some 188), mI x]) := fun a b =>
      Pair.no h h30 (k := 3) (by decide) (u_unmount_no h.1.1 I x (a.imp id Or.inl)) (refs _ (by rw [rfz_o _ _ (by decide)]) (by rw [rfz_o _ _ (by decide)]) (rfz_o _ _ (by decide)) b)
    by_cases x0 : x = 0
    · exact no (Or.inl x0) (Or.inl x0)
    · by_cases mt : q_X1_isMounted (vw 12 I 17) x = 0
      · refine no (Or.inr mt) (Or.inr ?_)
        by_cases hvol : q_X2_hasVolume (vw 6 I 1) x = 0
        · exact Or.inl hvol
        · right
          unfold q_X2_hasVolume at hvol
          unfold q_X1_isMounted at mt
          by_cases a : x < 0
          · rw [if_pos a] at hvol; exact absurd rfl hvol
          · rw [if_neg a] at hvol mt
            by_cases b : (3 : Int32) ≤ x
            · rw [if_pos b] at hvol; exact absurd rfl hvol
            · rw [if_neg b] at mt
              have l3 : ix x < 3 := by
                rcases Nat.lt_or_ge (ix x) 3 with z | z
                · exact z
                · exact absurd (by rw [nI_ix a]; exact nI_le (a := 3) z (ix_lt x)) b
              by_cases d : vw 12 I 17 9 (ix x) = -1
              · exact ⟨ix x, l3, nI_ix a, (r.B.rt _ l3).trans d⟩
              · rw [if_neg d] at mt; exact absurd mt (by decide)
      · -- it is mounted
        have xn : ¬ x < 0 := fun z => mt (by unfold q_X1_isMounted; rw [if_pos z])
        have xv : x = nI (ix x) := nI_ix xn
        have xl := ix_lt x
        generalize ix x = v at xv xl
        subst xv
        have v3 : v < 3 := by
          rcases Nat.lt_or_ge v 3 with z | z
          · exact z
          · refine absurd ?_ mt
            unfold q_X1_isMounted
            rw [if_neg xn, if_pos (show (3 : Int32) ≤ nI v from nI_le (a := 3) z (by omega))]
        have m9 : ¬ vw 12 I 17 9 v = -1 := fun z => mt (by
          unfold q_X1_isMounted
          rw [if_neg xn, if_neg (show ¬ (3 : Int32) ≤ nI v from nI_ge (b := 3) v3 (by decide)), ix_nI (by omega), if_pos z])
        have v1 : 1 ≤ v := by
          rcases Nat.eq_zero_or_pos v with z | z
          · exact absurd (by rw [z]; rfl) x0
          · exact z
        have vv : v < vol := by
          rcases i.M.rt v v3 with ⟨z, _⟩ | ⟨z, _⟩
          · exact absurd z m9
          · exact z
        have hvol : ¬ q_X2_hasVolume (vw 6 I 1) (nI v) = 0 := by
          unfold q_X2_hasVolume
          rw [if_neg xn, if_neg (show ¬ (3 : Int32) ≤ nI v from nI_ge (b := 3) v3 (by decide)), i.N.vs, if_neg (nI_ge vv (by omega))]
          exact i10
        have e5 : (5 : Int32) + nI v = nI (5 + v) := nI_add 5 v
        have e8 : (8 : Int32) + nI v = nI (8 + v) := nI_add 8 v
        have d5 : ¬ I 194 (5 + v) = -1 := by rw [r.B.rt v v3]; exact m9
        by_cases bz' : q_X1_isBusy (vw 6 I 1) (vw 12 I 17) (nI v) = 0
        · -- it goes
          obtain ⟨o, o64, ho, _, _, _⟩ := i.M.ov v v1 v3 m9
          have nb : ∀ e, e < 64 → ofB (vw 6 I 1) (vw 12 I 17) (nI v) e = true → hcV (vw 12 I 17) e + (hcH (vw 1 I 29) e + hcW (wks I 31) e) = 0 := fun e he w => by
            rw [busy_q i (nI v)] at bz'
            cases qf : fst? (useB (vw 6 I 1) (vw 12 I 17) (vw 1 I 29) (wks I 31) (nI v)) 0 64 with
            | some k => rw [qf] at bz'; exact absurd bz' i10
            | none =>
              have := fst_none qf e (Nat.zero_le _) (by omega)
              rcases Nat.eq_zero_or_pos (hcV (vw 12 I 17) e + (hcH (vw 1 I 29) e + hcW (wks I 31) e)) with y | y
              · exact y
              · rw [useB_t.mpr ⟨he, w, y⟩] at this
                cases this
          obtain ⟨g, o1, no'⟩ := unm_pre i v3 nb ho o64
          obtain ⟨uv', qd⟩ := unm_rows i.N i.M v3 g ho o64 o1 no'
          have uE := u_unmount h.1.1 I (nI v) x0 mt bz' k1 kl
          rw [e1, e2] at uE
          have ip := i.T (show T ≤ T + 10000 by omega) (by omega)
          have i2 := ip.unm (by omega) v1 v3 m9 nb ho o64 uv'
          have c2 := c.unm i v1 v3 m9 uv'
          have r2 := fun D' a b d e f g => r.unm (D' := D') i v3 ho o64 uv' a b d e f g
          have hm : q_X1_howMany (vw 12 I 17) - q_X1_howMany (gV_X1_dropVolume (vw 6 I 1) (vw 12 I 17) (nI v)) = nI (cnt (ofB (vw 6 I 1) (vw 12 I 17) (nI v)) 0 64) := by
            have sp : c_X1_howMany (vw 12 I 17) = c_X1_howMany (gV_X1_dropVolume (vw 6 I 1) (vw 12 I 17) (nI v)) + cnt (ofB (vw 6 I 1) (vw 12 I 17) (nI v)) 0 64 := by
              unfold c_X1_howMany
              refine cnt_split (fun k _ hk => ?_)
              have a1 := uv'.2.1 k (by omega)
              by_cases w : ofB (vw 6 I 1) (vw 12 I 17) (nI v) k = true
              · have := (ofB_t.mp w).1
                rw [a1.1 w, w]
                simp [this]
              · rw [a1.2 w, if_neg w, Nat.add_zero]
            show nI (c_X1_howMany (vw 12 I 17)) - nI (c_X1_howMany (gV_X1_dropVolume (vw 6 I 1) (vw 12 I 17) (nI v))) = _
            rw [nI_sub (by omega), sp, Nat.add_sub_cancel_left]
          rw [qd, hm] at uE
          clear uv' qd hm
          generalize gV_X1_dropVolume (vw 6 I 1) (vw 12 I 17) (nI v) = V' at uE i2 c2 r2
          have oX : ∀ y, y < 17 ∨ 29 ≤ y → pt X 17 V' y = X y := fun y w => pt_out (by omega)
          generalize hI1 : pt X 17 V' = I1 at uE oX
          have v17 : vw 12 I1 17 = V' := by rw [← hI1]; exact vw_pt _ _ _
          obtain ⟨Z, z1, zf, zo, zk, fin⟩ := rest I1 (fun y w _ _ => oX y (by omega)) (by rw [oX 0 (by omega), xo 0 (by decide) (by decide)])
          have lo : ∀ y, 188 ≤ y → y < 208 → I1 y = I y := fun y p q => by rw [oX y (by omega), xo y (by omega) (by omega)]
          obtain ⟨G', iu⟩ := w_isInUse r i rl I1 (I1 195) (I1 188 22) (nI v)
          have id1 : rF I1 (I 194) (I1 195) (I1 188 22) = I1 := by rw [← lo 194 (by decide) (by decide)]; exact rF_id _
          rw [id1, bz'] at iu
          have p28 : I 188 28 = nI q := hs.2.1.1
          have p29 : I 188 29 = nI p := hs.2.1.2
          have kz := w_keeps rl I1 (p := p) (q := q) (by rw [lo 188 (by decide) (by decide)]; exact p29) hs.1.2.1 (by rw [lo 188 (by decide) (by decide)]; exact p28) hs.1.2.2.2
          have zE : Z = kpR I1 ((p + 1) % 20) (min (q + 1) 20) := by
            have := z1.symm.trans kz
            injection this with w
            injection w with _ w
            injection w
          have kz2 : M_X10_keeps [mR (some 188)] (rF I1 (I 194) G' (I1 188 22), J1) = some (none, (rF Z (I 194) G' (I1 188 22), J1)) := by
            have := w_keeps rl (rF I1 (I 194) G' (I1 188 22)) (p := p) (q := q) (by rw [rF_k _ _ _ _ (by decide), lo 188 (by decide) (by decide)]; exact p29) hs.1.2.1 (by rw [rF_k _ _ _ _ (by decide), lo 188 (by decide) (by decide)]; exact p28) hs.1.2.2.2
            rw [this, ← lo 194 (by decide) (by decide), kpR_rF, ← zE]
          obtain ⟨A, D', ev, dh, d7, d4, dd5, dd8, dd⟩ := w_unm57 r i rl Z G' (I1 188 22) v3 o64
          have r3 := r2 D' dh d7 d4 dd5 dd8 dd
          refine ⟨_, _, rF (rw1 Z 200 A) D' G' (I1 188 22), J1, uE, ?_, fin0g fin zf zk (by rw [zo 201 (by decide) (by decide), lo 201 (by decide) (by decide)]) h.2.2.2.1 h.2.2.2.2.2.1 j6 rfl (by rw [oX 186 (by omega), xo 186 (by decide) (by decide)]) (by rw [oX 0 (by omega), xo 0 (by decide) (by decide)]) (by rw [oX 187 (by omega), xo 187 (by decide) (by decide)]) (fun y _ _ _ w => rw1_n _ _ w) (fun k _ => by rw [rw1_n _ _ (by decide)]) ⟨?_, v17, ?_, fun j hj => ?_⟩ i2 c2 r3⟩
          · have iv := w_isVolume rl I1 (by rw [lo 188 (by decide) (by decide)]; exact td13) (by rw [lo 188 (by decide) (by decide)]; exact hv) vol3.1 vol3.2 i.N.vs (nI v)
            have d8 : I 194 (8 + v) = nI o := (r.B.ov v v3).trans ho
            rw [E_X10_unmount]
            simp only [rl.kt, if_true, iv, Option.bind_some, asI_I, if_neg hvol, if_neg x0, rl.f18, rl.ldD _ e5 (show 5 + v < 1853 by omega), lo 194 (by decide) (by decide), if_neg d5, iu, kz2, asV_n, rl.ldD _ e8 (show 8 + v < 1853 by omega), rF_D, d8, ev]
          · rw [← e1]; exact vw_fr (fun y _ _ => oX y (by omega))
          · rw [← e3]; exact vw_fr (fun y _ _ => oX y (by omega))
          · rw [wks_fr (I := I) (fun y p q => by rw [oX y (by omega), e4 y p (by omega)]) hj]; exact WkEq.refl _
        · -- it is in use
          have y94 : rfz I 3 194 = I 194 := rfz_o _ _ (by decide)
          have y188 : rfz I 3 188 = I 188 := rfz_o _ _ (by decide)
          obtain ⟨G', iu⟩ := w_isInUse r i h.1.2 (rfz I 3) (rfz I 3 195) (rfz I 3 188 22) (nI v)
          have id1 : rF (rfz I 3) (I 194) (rfz I 3 195) (rfz I 3 188 22) = rfz I 3 := by rw [← y94]; exact rF_id _
          rw [id1] at iu
          have iv := w_isVolume h.1.2 (rfz I 3) (by rw [y188]; exact td13) (by rw [y188]; exact hv) vol3.1 vol3.2 i.N.vs (nI v)
          refine ⟨-1, _, rfR (rF (rfz I 3) (I 194) G' (rfz I 3 188 22)) 3, J, u_unmount_no h.1.1 I (nI v) (Or.inr (Or.inr bz')), ?_, ?_⟩
          · rw [E_X10_unmount]
            simp only [h.1.2.kt, if_true, iv, Option.bind_some, asI_I, if_neg hvol, if_neg x0, h.1.2.f18, h.1.2.ldD _ e5 (show 5 + v < 1853 by omega), y94, if_neg d5, iu, if_neg bz', w_refuses h.1.2 _ (show (3 : Int32) = nI 3 from rfl) (by decide)]
          · have oo : ∀ y, y ≠ 190 → y ≠ 188 → y ≠ 194 → y ≠ 195 → y ≠ 186 → rfR (rF (rfz I 3) (I 194) G' (rfz I 3 188 22)) 3 y = I y := fun y a b d e f => by rw [rfR_o _ _ a, rF_o _ _ _ _ b d e, rfz_o _ _ f]
            have kk : ∀ j, rfR (rF (rfz I 3) (I 194) G' (rfz I 3 188 22)) 3 188 j = I 188 j := fun j => by
              rw [rfR_o _ _ (by decide)]
              by_cases z : j = 22
              · rw [z, rF_c, y188]
              · rw [rF_k _ _ _ _ z, y188]
            obtain ⟨n, t1, t2, t3⟩ := h.2.1
            refine h.qq h30 ⟨n, ?_, by rw [kk]; exact t2, fun k hk => by rw [oo 189 (by decide) (by decide) (by decide) (by decide) (by decide), oo 8 (by decide) (by decide) (by decide) (by decide) (by decide)]; exact t3 k hk⟩ (h.2.2.2.1.ref (k := 3) (fun j => ?_) (fun j => ?_) (by decide)) (fun y w => ?_) (fun j _ => kk j) (fun j _ => by rw [rfR_o _ _ (by decide), rF_D])
            · rw [vw_fr (I := I) (fun y _ _ => oo y (by omega) (by omega) (by omega) (by omega) (by omega))]; exact t1
            · rw [rfR_o _ _ (by decide), rF_o _ _ _ _ (by decide) (by decide) (by decide)]
              exact up2_r I 186 3 _ j
            · have := up2_r (rF (rfz I 3) (I 194) G' (rfz I 3 188 22)) 190 3 (rF (rfz I 3) (I 194) G' (rfz I 3 188 22) 190 3 + 1) j
              rw [rF_o _ _ _ _ (by decide) (by decide) (by decide), rfz_o _ _ (show (190 : Nat) ≠ 186 by decide)] at this
              exact this
            · unfold OkC at w
              exact oo y (by omega) (by omega) (by omega) (by omega) (by omega)
  · have m0 : x = 0 ∨ q_X1_isMounted (vw 12 I 17) x = 0 := by
      right
      unfold q_X1_isMounted
      by_cases a : x < 0
      · rw [if_pos a]
      · rw [if_neg a]
        by_cases b : (3 : Int32) ≤ x
        · rw [if_pos b]
        · rw [if_neg b]
          have l3 : ix x < 3 := by
            rcases Nat.lt_or_ge (ix x) 3 with z | z
            · exact z
            · exact absurd (by rw [nI_ix a]; exact nI_le (a := 3) z (ix_lt x)) b
          have : vw 12 I 17 9 (ix x) = -1 := (u.2.2.1.2.2.2.1 (ix x) l3).1
          rw [if_pos this]
    refine Pair.no h h30 (k := 3) (by decide) (u_unmount_no h.1.1 I x (m0.imp id Or.inl)) ?_
    have z13 : bz (rfz I 3 188 13) = 0 := by rw [rfz_o _ _ (by decide)]; exact u.2.1
    have iv : M_X10_isVolume [mR (some 188), mI x] (rfz I 3, J) = some (some (mI 0), (rfz I 3, J)) := by
      rw [E_X10_isVolume]
      simp only [h.1.2.fz, Option.bind_some, z13, if_true]
      simp
    rw [E_X10_unmount]
    simp only [h.1.2.kt, if_true, iv, Option.bind_some, asI_I, w_refuses h.1.2 _ (show (3 : Int32) = nI 3 from rfl) (by decide)]

/-! A walker's step: the pair. -/
theorem P_step {I : MI} {J : MJ} {T B0 : Nat} (h : St I J T B0) (h30 : T + 10001 ≤ 1000000000) (x : Int32) : Pair I J T B0 (M_X9_step [mR (some 0), mI x]) (M_X10_step [mR (some 188), mI x]) := by
  have refs : ∀ Y : MI, M_X10_isWalker [mR (some 188), mI x] (Y, J) = some (some (mI 0), (Y, J)) → M_X10_step [mR (some 188), mI x] (Y, J) = some (some (mI (-1)), (rfR Y 5, J)) := fun Y hc => by
    rw [E_X10_step]
    simp only [h.1.2.kt, if_true, hc, Option.bind_some, asI_I, w_refuses h.1.2 Y (show (5 : Int32) = nI 5 from rfl) (by decide)]
  rcases h.2.2.2.2.2.2.2.2.2 with td | u
  · have td' := td
    obtain ⟨vol0, ad, p, q, _, td13, ⟨nn0, tt0, _, _, r0⟩, _⟩ := td'
    rcases w_isWalker h.1.2 td13 r0 (rfz I 5) (by rw [rfz_o _ _ (by decide)]) (by rw [rfz_o _ _ (by decide)]) x with ⟨a1, a2⟩ | ⟨k, k4, xk, a1, a3, _⟩
    · exact Pair.no h h30 (k := 5) (by decide) (u_step_no h.1.1 I x a1) (refs _ a2)
    · obtain ⟨vol, nn, t, X, J1, hv, i, c, r, k1, kl, rl, ⟨e1, e2, e3, e4, _⟩, xo, j6, _, rest⟩ := act_pre0 h h30 td
      have uE := u_step h.1.1 I x a1 k4 k1 kl
      have isw : ∀ Y : MI, (∀ y, 188 ≤ y → y < 208 → Y y = I y) → M_X10_isWalker [mR (some 188), mI (nI k)] (Y, J1) = some (some (mI 1), (Y, J1)) := fun Y lo => by
        rcases w_isWalker rl td13 r0 Y (by rw [lo 188 (by decide) (by decide)]) (lo 194 (by decide) (by decide)) x with ⟨b1, _⟩ | ⟨_, _, _, _, _, b2⟩
        · rw [a1] at b1; cases b1
        · rw [xk] at b2; exact b2
      subst xk
      rcases hwk : wks I 31 k with ⟨K, P, B⟩
      have vK : vw 1 X (31 + 6 * k) = K := by
        have : vw 1 X (31 + 6 * k) = (wks I 31 k).1 := vw_fr (fun y p q => e4 y (by omega) (by omega))
        rw [this, hwk]
      have vP : vw 2 X (31 + 6 * k + 1) = P := by
        have : vw 2 X (31 + 6 * k + 1) = (wks I 31 k).2.1 := vw_fr (fun y p q => e4 y (by omega) (by omega))
        rw [this, hwk]
      have vB : vw 3 X (31 + 6 * k + 3) = B := by
        have : vw 3 X (31 + 6 * k + 3) = (wks I 31 k).2.2 := vw_fr (fun y p q => e4 y (by omega) (by omega))
        rw [this, hwk]
      rw [hwk] at a3
      have uw : ¬ bz (K 0 5) = 0 := a3
      have ip := i.T (show T ≤ T + 10001 by omega) h30
      obtain ⟨l, rr, K0, r3, k05, core⟩ := step_core rl ip i.Z.tT c r k4 hwk uw
      unfold goQ goI q_X7_goOn gK_X7_goOn gB_X7_goOn gV_X7_goOn at uE
      rw [vK, vP, vB, e1, e2] at uE
      generalize o_X7_goOn 12 K P B (vw 6 I 1) (vw 12 I 17) = oo at uE core
      obtain ⟨q, K', B', V'⟩ := oo
      have uE : M_X9_step [mR (some 0), mI (nI k)] (I, J) = if q < 0 then some (some (mI q), (stpI (tlo (pt (pt (pt X (31 + 6 * k) K') (31 + 6 * k + 3) B') 17 V') (31 + 6 * k) q) (31 + 6 * k), J1)) else if q_X7_isThrough 12 (vw 1 (pt (pt (pt X (31 + 6 * k) K') (31 + 6 * k + 3) B') 17 V') (31 + 6 * k)) (vw 2 (pt (pt (pt X (31 + 6 * k) K') (31 + 6 * k + 3) B') 17 V') (31 + 6 * k + 1)) = 0 then some (some (mI 0), (pt (pt (pt X (31 + 6 * k) K') (31 + 6 * k + 3) B') 17 V', J1)) else some (some (mI 1), (stpI (tlo (pt (pt (pt X (31 + 6 * k) K') (31 + 6 * k + 3) B') 17 V') (31 + 6 * k) q) (31 + 6 * k), J1)) := uE
      have gK : vw 1 (pt (pt (pt X (31 + 6 * k) K') (31 + 6 * k + 3) B') 17 V') (31 + 6 * k) = K' := by rw [vw_out _ _ (by omega), vw_out _ _ (by omega), vw_pt]
      have gP : vw 2 (pt (pt (pt X (31 + 6 * k) K') (31 + 6 * k + 3) B') 17 V') (31 + 6 * k + 1) = P := by rw [vw_out _ _ (by omega), vw_out _ _ (by omega), vw_out _ _ (by omega), vP]
      have gB : vw 3 (pt (pt (pt X (31 + 6 * k) K') (31 + 6 * k + 3) B') 17 V') (31 + 6 * k + 3) = B' := by rw [vw_out _ _ (by omega), vw_pt]
      have gV : vw 12 (pt (pt (pt X (31 + 6 * k) K') (31 + 6 * k + 3) B') 17 V') 17 = V' := vw_pt _ _ _
      have gO : ∀ y, y < 17 ∨ (29 ≤ y ∧ y < 31 + 6 * k) ∨ (31 + 6 * k + 1 ≤ y ∧ y < 31 + 6 * k + 3) ∨ 31 + 6 * k + 6 ≤ y → pt (pt (pt X (31 + 6 * k) K') (31 + 6 * k + 3) B') 17 V' y = X y := fun y w => by rw [pt_out (by omega), pt_out (by omega), pt_out (by omega)]
      rw [gK, gP] at uE
      have w1 : ∀ (x : OneV × RouV × TriV) j, j ≠ k → wkS (wks I 31) k x j = wks I 31 j := fun x j q => wkS_n _ x q
      -- the windows of a heap that agrees with it
      have wkj : ∀ (Y : MI) (w : OneV × RouV × TriV), vw 1 Y (31 + 6 * k) = w.1 → vw 2 Y (31 + 6 * k + 1) = w.2.1 → vw 3 Y (31 + 6 * k + 3) = w.2.2 → (∀ y, 31 ≤ y → y < 55 → (y < 31 + 6 * k ∨ 31 + 6 * k + 6 ≤ y) → Y y = I y) → ∀ j, j < 4 → WkEq (wks Y 31 j) (wkS (wks I 31) k w j) := fun Y w q1 q2 q3 q4 j hj => by
        by_cases z : j = k
        · subst z
          rw [wkS_s]
          have : wks Y 31 j = w := by
            unfold wks
            rw [q1, q2, q3]
          rw [this]
          exact WkEq.refl _
        · rw [w1 _ j z]
          have : wks Y 31 j = wks I 31 j := by
            unfold wks
            rw [vw_fr (N := 1) (I := I) (fun y p q => q4 y (by omega) (by omega) (by omega)), vw_fr (N := 2) (I := I) (fun y p q => q4 y (by omega) (by omega) (by omega)), vw_fr (N := 3) (I := I) (fun y p q => q4 y (by omega) (by omega) (by omega))]
          rw [this]
          exact WkEq.refl _
      by_cases go : 0 ≤ q ∧ q_X7_isThrough 12 K' P = 0
      · -- it goes on
        have q0 : ¬ q < 0 := Int32.not_lt.mpr go.1
        rw [if_neg q0, if_pos go.2] at uE
        have oX := gO
        generalize hI1 : pt (pt (pt X (31 + 6 * k) K') (31 + 6 * k + 3) B') 17 V' = I1 at uE gK gP gB gV oX
        obtain ⟨Z, z1, zf, zo, zk, fin⟩ := rest I1 (fun y q _ _ => oX y (by omega)) (by rw [oX 0 (by omega), xo 0 (by decide) (by decide)])
        have lo : ∀ y, 188 ≤ y → y < 208 → I1 y = I y := fun y p q => by rw [oX y (by omega), xo y (by omega) (by omega)]
        obtain ⟨D', G', c', t', m', d', mm, _, i2, C2, k56, wi2, ov, _, _, alt⟩ := core I1 Z (isw I1 lo) z1 zf.2.1 zf.2.2.1 zf.1
        rcases alt with ⟨a', qa, _, _, _, r2, n3, ev⟩ | ⟨hh, _⟩
        · have ev : M_X10_step [mR (some 188), mI (nI k)] (I1, J1) = if q_X7_isThrough 12 K' P = 0 then some (some (mI 0), (rF Z D' G' c', J1)) else (M_X10_isOver [mR (some 188), mI (nI k), mI 0] (rF Z D' G' c', J1)).bind fun u3 => (asI u3.1).bind fun y4 => some (some (mI y4), u3.2) := ev
          rw [if_pos go.2] at ev
          have nr := n3 go.2
          have r4 := r2.rest ⟨rr, by omega, by rw [wkS_s]; exact wi2.r⟩
          refine ⟨0, _, rF Z D' G' c', J1, uE, ev, fin0 fin zf zk (by rw [zo 201 (by decide) (by decide), lo 201 (by decide) (by decide)]) h.2.2.2.1 h.2.2.2.2.2.1 j6 (by rw [oX 186 (by omega), xo 186 (by decide) (by decide)]) (by rw [oX 0 (by omega), xo 0 (by decide) (by decide)]) (by rw [oX 187 (by omega), xo 187 (by decide) (by decide)]) ⟨?_, gV, ?_, wkj I1 (K', P, B') gK gP gB (fun y p q s => by rw [oX y (by omega), e4 y p q])⟩ i2 C2 r4⟩
          · rw [← e1]; exact vw_fr (fun y _ _ => oX y (by omega))
          · rw [← e3]; exact vw_fr (fun y _ _ => oX y (by omega))
        · exact absurd go.1 (by
            have hh : q = -2 ∨ q = -3 := hh
            rcases hh with z | z <;> rw [z] <;> decide)
      · -- it is over
        have uE2 : M_X9_step [mR (some 0), mI (nI k)] (I, J) = some (some (mI (if q < 0 then q else 1)), (stpI (tlo (pt (pt (pt X (31 + 6 * k) K') (31 + 6 * k + 3) B') 17 V') (31 + 6 * k) q) (31 + 6 * k), J1)) := by
          rw [uE]
          by_cases z : q < 0
          · rw [if_pos z, if_pos z]
          · rw [if_neg z, if_neg z, if_neg (fun w => go ⟨Int32.not_lt.mp z, w⟩)]
        clear uE
        generalize hI0 : pt (pt (pt X (31 + 6 * k) K') (31 + 6 * k + 3) B') 17 V' = I0 at uE2 gK gP gB gV gO
        have tO : ∀ y, y ≠ 0 → y ≠ 187 → tlo I0 (31 + 6 * k) q y = I0 y := fun y p s => by
          unfold tlo
          rw [up2_o _ _ _ s, up2_o _ _ _ s, up2_o _ _ _ s, up2_o _ _ _ s, up2_o _ _ _ p]
        have t0 : tlo I0 (31 + 6 * k) q 0 14 = 1 ∧ ∀ j, j ≠ 14 → tlo I0 (31 + 6 * k) q 0 j = I0 0 j := by
          unfold tlo
          refine ⟨?_, fun j hj => ?_⟩
          · rw [up2_o _ _ _ (by decide), up2_o _ _ _ (by decide), up2_o _ _ _ (by decide), up2_o _ _ _ (by decide), up2_s]
          · rw [up2_o _ _ _ (by decide), up2_o _ _ _ (by decide), up2_o _ _ _ (by decide), up2_o _ _ _ (by decide), up2_k _ _ _ hj]
        have iK : I0 (31 + 6 * k) = K' 0 := by rw [← gK]; rfl
        have t187 : tlo I0 (31 + 6 * k) q 187 0 = (if 0 ≤ q then q_X1_nodeOf V' q else q) ∧ tlo I0 (31 + 6 * k) q 187 1 = (if 0 ≤ q then q else -1) ∧ tlo I0 (31 + 6 * k) q 187 2 = K' 0 7 ∧ tlo I0 (31 + 6 * k) q 187 3 = bz (K' 0 6) := by
          unfold tlo
          rw [gV, iK]
          refine ⟨?_, ?_, ?_, up2_s _ _ _ _⟩
          · rw [up2_k _ _ _ (by decide), up2_k _ _ _ (by decide), up2_k _ _ _ (by decide), up2_s]
          · rw [up2_k _ _ _ (by decide), up2_k _ _ _ (by decide), up2_s]
          · rw [up2_k _ _ _ (by decide), up2_s]
        generalize tlo I0 (31 + 6 * k) q = I2 at uE2 tO t0 t187
        have hK : vw 1 I2 (31 + 6 * k) = K' := by rw [← gK]; exact vw_fr (fun y _ _ => tO y (by omega) (by omega))
        have hP : vw 2 I2 (31 + 6 * k + 1) = P := by rw [← gP]; exact vw_fr (fun y _ _ => tO y (by omega) (by omega))
        have hB : vw 3 I2 (31 + 6 * k + 3) = B' := by rw [← gB]; exact vw_fr (fun y _ _ => tO y (by omega) (by omega))
        have hV : vw 12 I2 17 = V' := by rw [← gV]; exact vw_fr (fun y _ _ => tO y (by omega) (by omega))
        have sE : stpI I2 (31 + 6 * k) = pt (pt I2 (31 + 6 * k) (uv (uv K' 0 5 0) 0 4 0)) 17 (gV_X7_letGo K' B' V') := by
          unfold stpI gK_X7_stop gV_X7_stop
          rw [hK, hB, hV]
        rw [sE] at uE2
        generalize hV2 : gV_X7_letGo K' B' V' = V2 at uE2
        generalize hK2 : uv (uv K' 0 5 0) 0 4 0 = K2 at uE2
        have w0 : bz ((wkS (wks I 31) k (K2, P, B') k).1 0 5) = 0 := by
          rw [wkS_s, ← hK2]
          show bz (uv (uv K' 0 5 0) 0 4 0 0 5) = 0
          rw [uv_n _ _ _ _ _ _ (by decide), uv_s]
          rfl
        have jO : ∀ y, y < 17 ∨ (29 ≤ y ∧ y < 31 + 6 * k) ∨ 31 + 6 * k + 1 ≤ y → pt (pt I2 (31 + 6 * k) K2) 17 V2 y = I2 y := fun y w => by rw [pt_out (by omega), pt_out (by omega)]
        have jK : vw 1 (pt (pt I2 (31 + 6 * k) K2) 17 V2) (31 + 6 * k) = K2 := by rw [vw_out _ _ (by omega), vw_pt]
        have jV : vw 12 (pt (pt I2 (31 + 6 * k) K2) 17 V2) 17 = V2 := vw_pt _ _ _
        generalize pt (pt I2 (31 + 6 * k) K2) 17 V2 = I1 at uE2 jO jK jV
        have aX : ∀ y, y ≠ 0 → y ≠ 187 → (y < 17 ∨ (29 ≤ y ∧ y < 31 + 6 * k) ∨ 31 + 6 * k + 6 ≤ y) → I1 y = X y := fun y p s w => by rw [jO y (by omega), tO y p s, gO y (by omega)]
        obtain ⟨Z, z1, zf, zo, zk, fin⟩ := rest I1 (fun y w p s => aX y (by omega) s (by omega)) (by rw [jO 0 (by omega), t0.2 11 (by decide), gO 0 (by omega), xo 0 (by decide) (by decide)])
        have lo : ∀ y, 188 ≤ y → y < 208 → I1 y = I y := fun y p q => by rw [aX y (by omega) (by omega) (by omega), xo y (by omega) (by omega)]
        obtain ⟨D', G', c', t', m', d', mm, _, i2, C2, k56, wi2, ov, ⟨mm1, mm2, mm3⟩, ⟨dh, dr⟩, alt⟩ := core I1 Z (isw I1 lo) z1 zf.2.1 zf.2.2.1 zf.1
        have i2 : Inv (vw 6 I 1) V' (vw 1 I 29) (wkS (wks I 31) k (K', P, B')) nn vol t' (T + 10001) (fun _ => 0) := i2
        have C2 : CntI V' := C2
        have dh : D' (17 + 96 * k + 1) = bz (K' 0 6) := dh
        have dr : D' (17 + 96 * k + 2) = K' 0 7 := dr
        have ov : Ovb (vw 6 I 1) V' (vw 1 I 29) (wkS (wks I 31) k (K', P, B')) D' nn k := ov
        have wj : ∀ j, j ≠ k → wkS (wks I 31) k (K2, P, B') j = wkS (wks I 31) k (K', P, B') j := fun j z => by rw [w1 _ j z, w1 _ j z]
        have uw2 : ¬ bz ((wkS (wks I 31) k (K', P, B') k).1 0 5) = 0 := by
          rw [wkS_s]
          have : K' 0 5 = K0 0 5 := k56.1
          show ¬ bz (K' 0 5) = 0
          rw [this, k05]
          exact uw
        obtain ⟨i3, v1, kV⟩ := i2.stop k4 uw2 wj w0
        have i1 := i2.wsub k4 wj w0
        rw [wkS_s] at i3 v1 kV
        have i3 : Inv (vw 6 I 1) (gV_X7_letGo K' B' V') (vw 1 I 29) (wkS (wks I 31) k (K2, P, B')) nn vol t' (T + 10001) (fun _ => 0) := i3
        have v1 : ∀ f, f < 64 → gV_X7_letGo K' B' V' 1 f = if V' 1 f = 2 ∧ hc V' (vw 1 I 29) (wkS (wks I 31) k (K2, P, B')) f = 0 then 0 else V' 1 f := v1
        have kV : ∀ q : Fin 12, q ≠ 1 → q ≠ 5 → gV_X7_letGo K' B' V' q = V' q := kV
        rw [hV2] at i3 v1 kV
        have r1 := ov (wkS (wks I 31) k (K2, P, B')) (sD D' (17 + 96 * k + 0) 0) (fun j w => sD_n _ _ (by omega)) (sD_s _ _ _) wj w0
        have alt2 : ∃ how r0 r1 : Int32, ((how = 0 ∧ ∃ a, a < 128 ∧ D' (17 + 96 * k + (18 + 3 * (mm - 1))) = nI a ∧ D' (701 + 9 * a + 3) = r0 ∧ r1 = nI a) ∨ (¬ how = 0 ∧ r0 = how ∧ r1 = -1)) ∧ M_X10_step [mR (some 188), mI (nI k)] (I1, J1) = ((M_X10_isOver [mR (some 188), mI (nI k), mI how] (rF Z D' G' c', J1)).bind fun u3 => (asI u3.1).bind fun y4 => some (some (mI y4), u3.2)) ∧ r0 = (if 0 ≤ q then q_X1_nodeOf V' q else q) ∧ r1 = (if 0 ≤ q then q else -1) ∧ (if how = 0 then 1 else how) = if q < 0 then q else 1 := by
          rcases alt with ⟨a', qa, at', da, dn, _, _, ev⟩ | ⟨hh, ev⟩
          · have qa : q = nI a' := qa
            have at' : At V' a' := at'
            have dn : D' (701 + 9 * a' + 3) = V' 4 a' := dn
            have a64 := at'.1
            have q0 : 0 ≤ q := by rw [qa]; exact nI_pos' (by omega)
            have q0' : ¬ q < 0 := Int32.not_lt.mpr q0
            have ev : M_X10_step [mR (some 188), mI (nI k)] (I1, J1) = if q_X7_isThrough 12 K' P = 0 then some (some (mI 0), (rF Z D' G' c', J1)) else (M_X10_isOver [mR (some 188), mI (nI k), mI 0] (rF Z D' G' c', J1)).bind fun u3 => (asI u3.1).bind fun y4 => some (some (mI y4), u3.2) := ev
            rw [if_neg (fun w => go ⟨q0, w⟩)] at ev
            refine ⟨0, V' 4 a', nI a', Or.inl ⟨rfl, a', by omega, da, dn, rfl⟩, ev, ?_, ?_, ?_⟩
            · rw [if_pos q0, qa]
              unfold q_X1_nodeOf
              rw [Inv.isE a64 (by rw [at'.2.1]; exact i10), if_neg i10, ix64 a64]
            · rw [if_pos q0, qa]
            · rw [if_pos rfl, if_neg q0']
          · have hh : q = -2 ∨ q = -3 := hh
            have q0 : ¬ 0 ≤ q := by rcases hh with z | z <;> rw [z] <;> decide
            have q0' : q < 0 := by rcases hh with z | z <;> rw [z] <;> decide
            have qn : ¬ q = 0 := by rcases hh with z | z <;> rw [z] <;> decide
            exact ⟨q, q, -1, Or.inr ⟨qn, rfl, rfl⟩, ev, by rw [if_neg q0], by rw [if_neg q0], by rw [if_neg qn, if_pos q0']⟩
        obtain ⟨how, r0, r1', hr, ev, er0, er1, ea⟩ := alt2
        have zI : ∀ y, y ≠ 188 → y ≠ 201 → ovI Z r0 r1' (D' (17 + 96 * k + 2)) (D' (17 + 96 * k + 1)) y = Z y := fun y p s => ovI_o _ _ _ _ _ p s
        obtain ⟨D2, G2, s1, s2⟩ := r1.sweeps i1 rl (ovI Z r0 r1' (D' (17 + 96 * k + 2)) (D' (17 + 96 * k + 1))) (by rw [ovI_k _ _ _ _ _ (by decide)]; exact zf.2.1) G' c' (V' := V2) (fun q _ p1 p5 _ => kV q p1 p5) ⟨by rw [kV 0 (by decide) (by decide)], by rw [kV 0 (by decide) (by decide)], by rw [kV 0 (by decide) (by decide)], by rw [kV 0 (by decide) (by decide)]⟩ v1
        have we := w_isOver rl Z D' G' c' k4 mm1 mm2 mm3 hr s1
        rw [we] at ev
        simp only [Option.bind_some, asI_I] at ev
        rw [ea] at ev
        have zl := zf.2.2.2.1
        have fo : ∀ y, y ≠ 188 → y ≠ 201 → y ≠ 194 → y ≠ 195 → rF (ovI Z r0 r1' (D' (17 + 96 * k + 2)) (D' (17 + 96 * k + 1))) D2 G2 c' y = Z y := fun y p s u v => by rw [rF_o _ _ _ _ p u v, zI y p s]
        refine ⟨_, _, _, J1, uE2, ev, fin _ J1 (fun y p1 p2 p3 p4 p5 p6 p7 p8 => fo y p1 p7 p4 p5) (fun j p1 p2 p3 => by rw [rF_k _ _ _ _ p2, ovI_k _ _ _ _ _ p3]) (h.2.2.2.1.fr ?_ ?_) ⟨?_, fun _ j hj => ?_⟩ (Wd.mk i3 (C2.sub (fun f hf w => ?_) (kV 9 (by decide) (by decide))) s2 ?_ ?_ ?_ ?_ (rF_D _ _ _ _)) j6 rfl⟩
        · rw [fo 186 (by decide) (by decide) (by decide) (by decide), zl 186 (by decide), aX 186 (by decide) (by decide) (by omega), xo 186 (by decide) (by decide)]
        · rw [fo 190 (by decide) (by decide) (by decide) (by decide), zf.2.2.2.2.1]
        · rw [fo 0 (by decide) (by decide) (by decide) (by decide), zl 0 (by decide), jO 0 (by omega), t0.1, rF_k _ _ _ _ (by decide), ovI_32]
        · rw [fo 187 (by decide) (by decide) (by decide) (by decide), zl 187 (by decide), jO 187 (by omega), rF_o _ _ _ _ (by decide) (by decide) (by decide)]
          have ro := ovI_r Z r0 r1' (D' (17 + 96 * k + 2)) (D' (17 + 96 * k + 1))
          rcases (show j = 0 ∨ j = 1 ∨ j = 2 ∨ j = 3 by omega) with z | z | z | z
          · rw [z, t187.1, ro.1, er0]
          · rw [z, t187.2.1, ro.2.1, er1]
          · rw [z, t187.2.2.1, ro.2.2.1, dr]
          · rw [z, t187.2.2.2, ro.2.2.2, dh]
        · rw [v1 f hf] at w
          by_cases z : V' 1 f = 2 ∧ hc V' (vw 1 I 29) (wkS (wks I 31) k (K2, P, B')) f = 0
          · rw [if_pos z] at w; exact absurd rfl w
          · rw [if_neg z] at w; exact w
        · rw [vw_fr (I := X) (fun y p s => by rw [fo y (by omega) (by omega) (by omega) (by omega), zl y (by omega), aX y (by omega) (by omega) (by omega)])]; exact e1
        · rw [vw_fr (I := I1) (fun y p s => by rw [fo y (by omega) (by omega) (by omega) (by omega), zl y (by omega)])]; exact jV
        · rw [vw_fr (I := X) (fun y p s => by rw [fo y (by omega) (by omega) (by omega) (by omega), zl y (by omega), aX y (by omega) (by omega) (by omega)])]; exact e3
        · refine wkj _ (K2, P, B') ?_ ?_ ?_ (fun y p s w => by rw [fo y (by omega) (by omega) (by omega) (by omega), zl y (by omega), aX y (by omega) (by omega) (by omega), e4 y p s])
          · rw [vw_fr (I := I1) (fun y p s => by rw [fo y (by omega) (by omega) (by omega) (by omega), zl y (by omega)])]; exact jK
          · rw [vw_fr (I := I2) (fun y p s => by rw [fo y (by omega) (by omega) (by omega) (by omega), zl y (by omega), jO y (by omega)])]; exact hP
          · rw [vw_fr (I := I2) (fun y p s => by rw [fo y (by omega) (by omega) (by omega) (by omega), zl y (by omega), jO y (by omega)])]; exact hB
  · have w0 : q_X8_walkerAt I 31 x = none := by
      unfold q_X8_walkerAt
      by_cases a : x < 0
      · rw [if_pos a]
      · by_cases b : (4 : Int32) ≤ x
        · rw [if_neg a, if_pos b]
        · have : wz I 31 (ix x) = 0 := u.2.2.1.2.2.2.2.2.2 _ (lt4 a b)
          rw [if_neg a, if_neg b, if_pos this]
    refine Pair.no h h30 (k := 5) (by decide) (u_step_no h.1.1 I x w0) (refs _ ?_)
    rw [E_X10_isWalker]
    simp only [h.1.2.fz, Option.bind_some, rfz_o I 5 (show (188 : Nat) ≠ 186 by decide), u.2.1, if_true]
    simp

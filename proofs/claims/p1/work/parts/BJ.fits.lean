/-! What fits, on both sides. -/
theorem RefL.f42 {J : MJ} (h : RefL J) (I : MI) : fR (I, J) 10 188 42 = some (some 207) := by rw [fR_ok 42 h.k, h.r42]
/-- rows laid out so far -/
def Tbl (Y : MI) (L : Nat) (val : Nat → Nat → Int32) (ft : Nat → Bool) (r : Nat) : Prop := ∀ r', r' < r → (Y 207 (4 + r') = if ft r' = true then 1 else 0) ∧ ∀ p, p < L → Y 206 (12 * (4 + r') + p) = val r' (p + 1) - val r' p
theorem fits_loop {I X : MI} {J : MJ} {L : Nat} {val : Nat → Nat → Int32} (rl : RefL J) (lo : RLo I J L val) (xo : ∀ x, (x < 70 ∨ 134 ≤ x) → X x = I x) (L12 : L ≤ 12) {sn : Int32} (hs : I 188 37 = sn) : ∀ (n r c : Nat) (Y : MI), r + n = 37 → KeY X Y → Tbl Y L val (fun k => decide (sn = -1 ∨ val k L - val k 0 = sn)) r → ∃ Y', Ev T_X10_laysFits 4 [some (mR (some 188)), some (mI (nI c)), some (mI (nI (4 + r))), none] [] (Y, J) = some (some (mI (nI (c + cnt (fun k => decide (sn = -1 ∨ val k L - val k 0 = sn)) r n))), (Y', J)) ∧ KeY X Y' ∧ Tbl Y' L val (fun k => decide (sn = -1 ∨ val k L - val k 0 = sn)) 37 := by
  have nb1 : vp_nar .boolean 1 = 1 := rfl
  have nb0 : vp_nar .boolean 0 = 0 := rfl
  intro n
  induction n with
  | zero =>
    intro r c Y hr k tb
    have : r = 37 := by omega
    subst this
    refine ⟨Y, ?_, k, tb⟩
    rw [E_X10_laysFits_4, if_pos (show (40 : Int32) < nI (4 + 37) by decide)]
    rfl
  | succ n ih =>
    intro r c Y hr k tb
    obtain ⟨Y1, a1, a2, a3, a4⟩ := lo.go xo k (show r < 37 by omega)
    have y37 : Y1 188 37 = sn := by rw [a2.2.1 37 (by decide), xo 188 (by decide)]; exact hs
    have ce : cnt (fun k => decide (sn = -1 ∨ val k L - val k 0 = sn)) r (n + 1) = (if decide (sn = -1 ∨ val r L - val r 0 = sn) = true then 1 else 0) + cnt (fun k => decide (sn = -1 ∨ val k L - val k 0 = sn)) (r + 1) n := rfl
    have t1 : ∀ v, Tbl (up2 Y1 207 (4 + r) v) L val (fun k => decide (sn = -1 ∨ val k L - val k 0 = sn)) r ∧ ∀ p, p < L → up2 Y1 207 (4 + r) v 206 (12 * (4 + r) + p) = val r (p + 1) - val r p := fun v => by
      refine ⟨fun r' hr' => ⟨?_, fun p hp => ?_⟩, fun p hp => ?_⟩
      · rw [up2_k _ _ _ (show 4 + r' ≠ 4 + r by omega), a3]
        exact (tb r' hr').1
      · rw [up2_o _ _ _ (by decide), a4 _ (by omega), if_neg (by omega)]
        exact (tb r' hr').2 p hp
      · rw [up2_o _ _ _ (by decide), a4 _ (by omega), if_pos (by omega), show 12 * (4 + r) + p - 12 * (4 + r) = p by omega]
    have kk : ∀ v, KeY X (up2 Y1 207 (4 + r) v) := fun v => a2.trans ⟨fun x _ _ _ _ _ _ _ e => up2_o _ _ _ e, fun j _ => by rw [up2_o _ _ _ (by decide)], fun j _ => by rw [up2_o _ _ _ (by decide)]⟩
    have nxt' : ∀ v, v = (if decide (sn = -1 ∨ val r L - val r 0 = sn) = true then (1 : Int32) else 0) → Tbl (up2 Y1 207 (4 + r) v) L val (fun k => decide (sn = -1 ∨ val k L - val k 0 = sn)) (r + 1) := fun v hv r' hr' => by
      by_cases w : r' = r
      · subst w
        exact ⟨by rw [up2_s]; exact hv, (t1 v).2⟩
      · exact (t1 v).1 r' (by omega)
    have l207 : ∀ v, ld (up2 Y1 207 (4 + r) v, J) 12 207 (nI (4 + r)) = some v := fun v => by
      rw [ldx rl.s42 (show 4 + r < 41 by omega) (by decide) rfl, up2_s]
    rw [E_X10_laysFits_4, if_neg (show ¬ (40 : Int32) < nI (4 + r) from nI_nlt (a := 40) (by omega) (by omega)), ce]
    simp only [rl.kt, if_true, a1, Option.bind_some, asI_I, rl.f42, rl.fi, y37, nb1, nb0, stx rl.s42 (show 4 + r < 41 by omega) (by decide) rfl, l207, w_flag, nI_1]
    by_cases s1 : sn = -1
    · have d : decide (sn = -1 ∨ val r L - val r 0 = sn) = true := by simp [s1]
      rw [if_pos s1, if_neg i10, nI_1, if_pos d]
      obtain ⟨Y', b1, b2, b3⟩ := ih (r + 1) (c + 1) (up2 Y1 207 (4 + r) 1) (by omega) (kk 1) (nxt' 1 (by rw [if_pos d]))
      exact ⟨Y', by rw [show 4 + r + 1 = 4 + (r + 1) by omega, b1, Nat.add_assoc], b2, b3⟩
    · rw [if_neg s1]
      by_cases s2 : val r L - val r 0 = sn
      · have d : decide (sn = -1 ∨ val r L - val r 0 = sn) = true := by simp [s2]
        rw [if_pos s2, if_neg i10, nI_1, if_pos d]
        obtain ⟨Y', b1, b2, b3⟩ := ih (r + 1) (c + 1) (up2 Y1 207 (4 + r) 1) (by omega) (kk 1) (nxt' 1 (by rw [if_pos d]))
        exact ⟨Y', by rw [show 4 + r + 1 = 4 + (r + 1) by omega, b1, Nat.add_assoc], b2, b3⟩
      · have d : ¬ decide (sn = -1 ∨ val r L - val r 0 = sn) = true := by simp [s1, s2]
        rw [if_neg s2]
        try rw [if_pos rfl]
        rw [Int32.add_zero, if_neg d]
        obtain ⟨Y', b1, b2, b3⟩ := ih (r + 1) c (up2 Y1 207 (4 + r) 0) (by omega) (kk 0) (nxt' 0 (by rw [if_neg d]))
        exact ⟨Y', by rw [show 4 + r + 1 = 4 + (r + 1) by omega, b1, Nat.zero_add], b2, b3⟩
theorem w_laysFits {I X : MI} {J : MJ} {L : Nat} {val : Nat → Nat → Int32} (rl : RefL J) (lo : RLo I J L val) (xo : ∀ x, (x < 70 ∨ 134 ≤ x) → X x = I x) (L12 : L ≤ 12) {sn : Int32} (hs : I 188 37 = sn) : ∃ Y', M_X10_laysFits [mR (some 188)] (X, J) = some (some (mI (nI (cnt (fun k => decide (sn = -1 ∨ val k L - val k 0 = sn)) 0 37))), (Y', J)) ∧ KeY X Y' ∧ Tbl Y' L val (fun k => decide (sn = -1 ∨ val k L - val k 0 = sn)) 37 := by
  obtain ⟨Y', b1, b2, b3⟩ := fits_loop rl lo xo L12 hs 37 0 0 X (by omega) (KeY.refl _) (fun r' h => by omega)
  rw [Nat.zero_add] at b1
  exact ⟨Y', by rw [E_X10_laysFits]; exact b1, b2, b3⟩
theorem fitB_all {I : MI} {L : Nat} {val : Nat → Nat → Int32} {sn : Int32} (tab : ∀ r, r < 37 → (∀ p, p < L → allI I L (96 + r) p = val r (p + 1) - val r p) ∧ allI I L 133 r = val r L - val r 0) (hs : I 69 2 = sn) {r : Nat} (hr : r < 37) : fitB (allI I L) 69 r = decide (sn = -1 ∨ val r L - val r 0 = sn) := by
  unfold fitB
  have e1 : allI I L 69 2 = sn := by rw [all_out I L 69 (by decide)]; exact hs
  have e2 : allI I L (69 + 64) r = val r L - val r 0 := (tab r hr).2
  rw [e1, e2]
theorem P_fits {I : MI} {J : MJ} {T B0 : Nat} (h : St I J T B0) (h30 : T + 10001 ≤ 1000000000) (x : Int32) : Pair I J T B0 (M_X9_fits [mR (some 0), mI x]) (M_X10_fits [mR (some 188), mI x]) := by
  obtain ⟨L, L12, l1, l2, l3, alt⟩ := trc_pre h h30
  have rl := h.1.2
  have uE := u_fitsQ h.1.1 I x l1 L12
  by_cases L0 : L = 0
  · rw [if_pos L0] at uE
    refine Pair.ask h h30 uE (w := -1) ?_ rfl
    rw [E_X10_fits]
    simp only [rl.fi, l2, L0, Option.bind_some, show nI 0 = 0 from rfl, if_true]
  · rw [if_neg L0] at uE
    obtain ⟨val, tab, _, lo⟩ := alt.resolve_left L0
    have ln : ¬ nI L = 0 := fun z => L0 ((nI_eq (by omega) (by omega)).mp (z.trans nI_0.symm))
    generalize hsn : I 188 37 = sn at l3
    have fb : ∀ r, r < 37 → fitB (allI I L) 69 r = decide (sn = -1 ∨ val r L - val r 0 = sn) := fun r hr => fitB_all tab l3 hr
    have y36 : allI I L 188 36 = nI L := by rw [all_out I L 188 (by decide)]; exact l2
    by_cases neg : (-1 : Int32) ≤ x
    · obtain ⟨Y', b1, b2, b3⟩ := w_laysFits rl lo (all_out I L) L12 hsn
      have rE : M_X10_fits [mR (some 188), mI x] (allI I L, J) = if x = -1 then some (some (mI (nI (cnt (fun k => decide (sn = -1 ∨ val k L - val k 0 = sn)) 0 37))), (Y', J)) else Ev T_X10_fits 31 [some (mR (some 188)), none, none, some (mI x), some (mI 4)] [] (Y', J) := by
        rw [E_X10_fits]
        simp only [rl.fi, y36, Option.bind_some, if_neg ln, if_pos neg, rl.kt, if_true, b1, asI_I]
      refine ⟨lp_fitting (allI I L) 69 x 37 0 0, _, Y', J, uE, ?_, h.key h30 (all_out I L) b2⟩
      rw [rE]
      by_cases x1 : x = -1
      · rw [if_pos x1]
        have cl : ∀ n r c, r + n = 37 → c ≤ r → lp_fitting (allI I L) 69 x n r (nI c) = nI (c + cnt (fun k => decide (sn = -1 ∨ val k L - val k 0 = sn)) r n) := by
          intro n
          induction n with
          | zero =>
            intro r c _ _
            show (if x = -1 then nI c else -1) = nI (c + 0)
            rw [if_pos x1]
            rfl
          | succ n ih =>
            intro r c hr hc
            have e : cnt (fun k => decide (sn = -1 ∨ val k L - val k 0 = sn)) r (n + 1) = (if decide (sn = -1 ∨ val r L - val r 0 = sn) = true then 1 else 0) + cnt (fun k => decide (sn = -1 ∨ val k L - val k 0 = sn)) (r + 1) n := rfl
            have e2 : lp_fitting (allI I L) 69 x (n + 1) r (nI c) = if fitB (allI I L) 69 r = true then (if nI c = x then nI (4 + r) else lp_fitting (allI I L) 69 x n (r + 1) (nI c + 1)) else lp_fitting (allI I L) 69 x n (r + 1) (nI c) := rfl
            rw [e, e2, fb r (by omega)]
            by_cases d : decide (sn = -1 ∨ val r L - val r 0 = sn) = true
            · rw [if_pos d, if_pos d, if_neg (by rw [x1]; exact nI_m1 (show c < 2 ^ 31 by omega)), nI_1, ih (r + 1) (c + 1) (by omega) (by omega), Nat.add_assoc]
            · rw [if_neg d, if_neg d, ih (r + 1) c (by omega) (by omega), Nat.zero_add]
        have := cl 37 0 0 rfl (Nat.le_refl _)
        rw [show (nI 0) = 0 from rfl, Nat.zero_add] at this
        rw [this]
      · rw [if_neg x1]
        have xn : ¬ x < 0 := by
          intro z
          apply x1
          apply Int32.toInt_inj.mp
          rw [Int32.le_iff_toInt_le] at neg
          rw [Int32.lt_iff_toInt_lt] at z
          have e1 : (-1 : Int32).toInt = -1 := rfl
          have e0 : (0 : Int32).toInt = 0 := rfl
          omega
        obtain ⟨kk, k31, hk⟩ := nI_of xn
        subst hk
        have cl : ∀ n r c, r + n = 37 → c ≤ kk → Ev T_X10_fits 31 [some (mR (some 188)), none, none, some (mI (nI (kk - c))), some (mI (nI (4 + r)))] [] (Y', J) = some (some (mI (lp_fitting (allI I L) 69 (nI kk) n r (nI c))), (Y', J)) := by
          intro n
          induction n with
          | zero =>
            intro r c hr hc
            rw [E_X10_fits_31, if_pos (show (40 : Int32) < nI (4 + r) from nI_lt (a := 40) (by omega) (by omega))]
            show _ = some (some (mI (if nI kk = -1 then nI c else -1)), (Y', J))
            rw [if_neg x1]
          | succ n ih =>
            intro r c hr hc
            have e2 : lp_fitting (allI I L) 69 (nI kk) (n + 1) r (nI c) = if fitB (allI I L) 69 r = true then (if nI c = nI kk then nI (4 + r) else lp_fitting (allI I L) 69 (nI kk) n (r + 1) (nI c + 1)) else lp_fitting (allI I L) 69 (nI kk) n (r + 1) (nI c) := rfl
            rw [e2, fb r (by omega), E_X10_fits_31, if_neg (show ¬ (40 : Int32) < nI (4 + r) from nI_nlt (a := 40) (by omega) (by omega))]
            simp only [rl.f42, Option.bind_some, ldx rl.s42 (show 4 + r < 41 by omega) (by decide) rfl, (b3 r (by omega)).1, nI_1]
            by_cases d : decide (sn = -1 ∨ val r L - val r 0 = sn) = true
            · rw [if_pos d, if_neg i10, if_pos d]
              by_cases z : c = kk
              · rw [if_pos (show nI (kk - c) = 0 by rw [z, Nat.sub_self]; rfl), if_pos (show nI c = nI kk by rw [z])]
              · have lm1 : nI (kk - c) + (-1) = nI (kk - (c + 1)) := by
                  have : nI (kk - c) = nI (kk - (c + 1)) + 1 := by rw [nI_1, show kk - (c + 1) + 1 = kk - c by omega]
                  rw [this, Int32.add_assoc, show (1 : Int32) + (-1) = 0 by decide, Int32.add_zero]
                rw [if_neg (fun w => z ((nI_eq (by omega) (by omega)).mp w)), if_neg (fun w => by have := (nI_eq (by omega) (by omega)).mp (w.trans nI_0.symm); omega), lm1, show 4 + r + 1 = 4 + (r + 1) by omega]
                exact ih (r + 1) (c + 1) (by omega) (by omega)
            · rw [if_neg d, if_pos rfl, if_neg d, show 4 + r + 1 = 4 + (r + 1) by omega]
              exact ih (r + 1) c (by omega) hc
        have := cl 37 0 0 rfl (Nat.zero_le _)
        rw [Nat.sub_zero, show (nI 0) = 0 from rfl] at this
        exact this
    · have cl : ∀ n r c, r + n = 37 → c ≤ r → lp_fitting (allI I L) 69 x n r (nI c) = -1 := by
        have x1 : ¬ x = -1 := fun z => neg (by rw [z]; exact Int32.le_refl _)
        intro n
        induction n with
        | zero =>
          intro r c _ _
          show (if x = -1 then nI c else -1) = -1
          rw [if_neg x1]
        | succ n ih =>
          intro r c hr hc
          have e2 : lp_fitting (allI I L) 69 x (n + 1) r (nI c) = if fitB (allI I L) 69 r = true then (if nI c = x then nI (4 + r) else lp_fitting (allI I L) 69 x n (r + 1) (nI c + 1)) else lp_fitting (allI I L) 69 x n (r + 1) (nI c) := rfl
          have nx : ¬ nI c = x := fun z => neg (by
            rw [← z, Int32.le_iff_toInt_le, nI_toInt (by omega)]
            have e1 : (-1 : Int32).toInt = -1 := rfl
            omega)
          rw [e2, if_neg nx, nI_1, ih (r + 1) (c + 1) (by omega) (by omega), ih (r + 1) c (by omega) (by omega), ite_self]
      have := cl 37 0 0 rfl (Nat.le_refl _)
      rw [show (nI 0) = 0 from rfl] at this
      rw [this] at uE
      refine ⟨-1, _, allI I L, J, uE, ?_, h.key h30 (all_out I L) (KeY.refl _)⟩
      rw [E_X10_fits]
      simp only [rl.fi, y36, Option.bind_some, if_neg ln, if_neg neg]

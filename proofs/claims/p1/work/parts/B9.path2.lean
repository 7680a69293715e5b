/-! The path of a handle, on both sides. -/
/-- what a written path leaves -/
theorem St.pth {I I' : MI} {J : MJ} {T B0 : Nat} (h : St I J T B0) (h30 : T + 10001 ≤ 1000000000) (s4 : S4 I') (o : ∀ x, x ≠ 0 → x ≠ 183 → x ≠ 184 → x ≠ 185 → x ≠ 188 → x ≠ 197 → x ≠ 198 → I' x = I x) (k0 : ∀ j, j ≠ 11 → I' 0 j = I 0 j) (k : ∀ j, j ≠ 25 → I' 188 j = I 188 j) : St I' J (T + 10001) B0 := by
  have oo : ∀ {x}, x < 183 ∨ 186 ≤ x → x ≠ 0 → x ≠ 188 → x ≠ 197 → x ≠ 198 → I' x = I x := fun {x} a b c d e => o x b (by omega) (by omega) (by omega) c d e
  obtain ⟨L, s7⟩ := h.2.2.2.2.2.2.2.1
  exact h.sm (h.2.1.fr (oo (by decide) (by decide) (by decide) (by decide) (by decide)) (oo (by decide) (by decide) (by decide) (by decide) (by decide)) (k 1 (by decide)) (oo (by decide) (by decide) (by decide) (by decide) (by decide))) (h.2.2.1.fr (oo (by decide) (by decide) (by decide) (by decide) (by decide)) (k 6 (by decide)) (k 7 (by decide))) (h.2.2.2.1.fr (oo (by decide) (by decide) (by decide) (by decide) (by decide)) (oo (by decide) (by decide) (by decide) (by decide) (by decide))) s4 (h.2.2.2.2.2.1.fr (k0 14 (by decide)) (oo (by decide) (by decide) (by decide) (by decide) (by decide)) (k 32 (by decide)) (oo (by decide) (by decide) (by decide) (by decide) (by decide))) ⟨L, s7.fr (by rw [oo (x := 69) (by decide) (by decide) (by decide) (by decide) (by decide)]) (by rw [oo (x := 69) (by decide) (by decide) (by decide) (by decide) (by decide)]) (fun x a b => oo (by omega) (by omega) (by omega) (by omega) (by omega)) (k 36 (by decide)) (k 37 (by decide)) (oo (by decide) (by decide) (by decide) (by decide) (by decide)) (oo (by decide) (by decide) (by decide) (by decide) (by decide))⟩ (h.2.2.2.2.2.2.2.2.1.fr (k 20 (by decide)) (k 21 (by decide))) (fun x a _ _ b _ _ => oo (by omega) b (by omega) (by omega) (by omega)) (oo (by decide) (by decide) (by decide) (by decide) (by decide)) (fun _ => ⟨by rw [oo (x := 69) (by decide) (by decide) (by decide) (by decide) (by decide)], by rw [oo (x := 69) (by decide) (by decide) (by decide) (by decide) (by decide)]⟩) (fun x a => oo (by omega) (by omega) (by omega) (by omega) (by omega)) (fun j a => k j (by omega)) (fun j _ => by rw [oo (x := 194) (by decide) (by decide) (by decide) (by decide) (by decide)]) (oo (by decide) (by decide) (by decide) (by decide) (by decide)) (by omega) h30
theorem pthR_0 (I : MI) {e : Int32} (hx : q_X2_exists (vw 6 I 1) (q_X1_nodeOf (vw 12 I 17) e) = 0) : pthR I e 0 1 = nI 0 := by
  unfold pthR
  have e1 : gP_X8_routeTo 60 (vw 1 I 16) (vw 2 I 183) (vw 6 I 1) (vw 12 I 17) (q_X1_nodeOf (vw 12 I 17) e) = gP_X4_turnAround 60 (gP_X4_clear 60 (vw 2 I 183)) := by
    show (if (q_X2_exists (vw 6 I 1) (q_X1_nodeOf (vw 12 I 17) e)) = 0 then _ else _) = _
    rw [if_pos hx]
  rw [e1]
  exact (turn_q (l := 0) (by unfold gP_X4_clear; rw [uv_s]; rfl) (by decide)).1
theorem P_path {I : MI} {J : MJ} {T B0 : Nat} (h : St I J T B0) (h30 : T + 10001 ≤ 1000000000) (x : Int32) : Pair I J T B0 (M_X9_path [mR (some 0), mI x]) (M_X10_path [mR (some 188), mI x]) := by
  have rl := h.1.2
  have ex1 : q_X2_exists (vw 6 I 1) (-1) = 0 := by
    unfold q_X2_exists
    rw [if_pos (by decide)]
  have nm1 : q_X1_nodeOf (vw 12 I 17) (-1) = -1 := by
    unfold q_X1_nodeOf q_X1_isEntry
    rw [if_pos (show (-1 : Int32) < 0 by decide), if_pos rfl]
  have none' : q_X8_handleAt (vw 1 I 16) (vw 1 I 29) x = -1 → M_X9_path [mR (some 0), mI x] (I, J) = some (some (mI (-1)), (I, J)) := fun q => by
    rw [u_path h.1.1 I x (n := 0) (by rw [q]; exact pthR_0 I (by rw [nm1]; exact ex1)) (by decide), if_pos q]
  rcases h.2.2.2.2.2.2.2.2.2 with ⟨vol, ad, p, q, hv, td, ⟨nn, t, i, c, r⟩, hs⟩ | u
  · have inr : M_X10_isIn [mL (Int32.toInt64 x), mL 0, mL 5] = fun s => some (some (mI (if x < 0 then 0 else if 5 < x then 0 else 1)), s) := by
      funext s
      exact w_isIn x 0 5 s rfl rfl
    by_cases a : x < 0
    · refine Pair.ask h h30 (none' (by unfold q_X8_handleAt; rw [if_pos a])) (w := -1) ?_ rfl
      rw [E_X10_path]
      simp only [rl.fz, Option.bind_some, if_neg td, inr, asI_I, if_pos a, if_true]
    by_cases b : (6 : Int32) ≤ x
    · refine Pair.ask h h30 (none' (by unfold q_X8_handleAt; rw [if_neg a, if_pos b])) (w := -1) ?_ rfl
      rw [E_X10_path]
      simp only [rl.fz, Option.bind_some, if_neg td, inr, asI_I, if_neg a, if_pos (five.mpr b), if_true]
    have l6 := lt6 a b
    have hx : x = nI (ix x) := nI_ix a
    generalize hk : ix x = k at l6 hx
    subst hx
    have hA : q_X8_handleAt (vw 1 I 16) (vw 1 I 29) (nI k) = vw 1 I 29 0 k := by
      unfold q_X8_handleAt
      rw [if_neg a, if_neg b, ix_nI (by omega)]
    have e11 : (11 : Int32) + nI k = nI (11 + k) := nI_add 11 k
    have d11 : I 194 (11 + k) = vw 1 I 29 0 k := r.B.ha k l6
    rcases i.H k l6 with z | ⟨e, e64, z1, z2, z3⟩
    · refine Pair.ask h h30 (none' (by rw [hA]; exact z)) (w := -1) ?_ rfl
      rw [E_X10_path]
      simp only [rl.fz, Option.bind_some, if_neg td, inr, asI_I, if_neg a, if_neg (fun z => b (five.mp z)), if_neg i10, rl.f18, rl.ldD _ e11 (show 11 + k < 1853 by omega), d11, z, if_true]
    · have en := r.B.en e e64 z2
      have gq : q_X1_isGone (vw 12 I 17) (nI e) = if vw 12 I 17 1 e = 2 then 1 else 0 := by
        unfold q_X1_isGone
        rw [Inv.isE e64 z2, if_neg i10, ix_nI (by omega)]
      have em : ¬ nI e = -1 := nI_m1 (by omega)
      rcases i.M.st e e64 with s | s | s
      · exact absurd s z2
      · -- an entry that is there
        have eA : At (vw 12 I 17) e := ⟨e64, s, z3⟩
        have ng : ¬ (1 : Int32) = 2 := by decide
        rw [s, if_neg ng] at gq
        obtain ⟨kn', knn, ke, k4⟩ := i.M.nk i.N eA
        obtain ⟨μ, m1, m2⟩ := ex_rank i.N i.M
        obtain ⟨e0, e064, h0⟩ := i.M.r0
        have n60 := i.N.n60
        have no := nodeOf_q (V := vw 12 I 17) e64 z2
        -- the class's route first
        have rk := rkc_le μ nn kn'
        obtain ⟨l, P', N0, g1, g2, g3, g4, _⟩ := path_up i m1 m2 rl I r (vw 1 I 16) h0 e064 61 e kn' 0 120 0 (gP_X4_clear 60 (vw 2 I 183)) (I 198) eA ke knn (by omega) (by omega) (by omega) (by unfold gP_X4_clear; rw [uv_s]; rfl) (fun j hj => by omega)
        have pR : pthR I (nI e) = gP_X4_turnAround 60 P' := by
          unfold pthR
          rw [no, ke]
          exact g1
        obtain ⟨t1, t2⟩ := turn_q g2 g3
        have uE := u_path h.1.1 I (nI k) (n := l) (by rw [hA, z1, pR]; exact t1) (by omega)
        rw [hA, z1, if_neg em, gq, if_pos rfl, pR] at uE
        -- the heaps
        have st0 : pt (up2 I 0 11 0) 183 (gP_X4_turnAround 60 P') = cF (pt I 183 (gP_X4_turnAround 60 P')) (nI 0) (I 185) := by
          funext a j
          unfold cF
          by_cases y : a = 185
          · rw [if_pos y, y, pt_out (by omega), up2_o _ _ _ (by decide)]
          · rw [if_neg y]
            by_cases w : a = 0 ∧ j = 11
            · rw [if_pos w, w.1, w.2, pt_out (by omega), up2_s]
              rfl
            · rw [if_neg w]
              unfold pt
              split
              · rfl
              · unfold up2
                rw [if_neg w]
        -- both write, at any heap of the reference's that has the names
        have run : ∀ (Y : MI) (N : RowV), Y 198 = N → (∀ j, j < l → Nm (P' 1 j) (N j)) → ∃ o' B' C', wrr (pt (up2 I 0 11 0) 183 (gP_X4_turnAround 60 P')) 183 60 l = cF (pt I 183 (gP_X4_turnAround 60 P')) (nI o') B' ∧ o' ≤ 300 ∧ Agr B' C' o' ∧ (Ev T_X10_path 136 [some (mR (some 188)), none, none, none, some (mI (nI l - 1)), none] [] (if l = 0 then oF Y (nI 1) (sD (Y 197) 0 47) else oF Y (nI 0) (Y 197), J) = some (some (mI (nI o')), (oF Y (nI o') C', J))) := by
          intro Y N yN hn
          have hn' : ∀ j, j < l → Nm (gP_X4_turnAround 60 P' 1 j) (N (l - 1 - j)) := fun j hj => by
            rw [t2 j hj]
            exact hn _ (by omega)
          have ag0 : Agr (I 185) (Y 197) 0 := fun j hj => by omega
          by_cases l0 : l = 0
          · obtain ⟨o', B', C', q1, q2, q3, q4⟩ := write_loop rl (pt I 183 (gP_X4_turnAround 60 P')) Y g3 (vw_pt _ _ _) t1 hn' yN l 0 1 (sD (I 185) 0 47) (sD (Y 197) 0 47) (by omega) (by omega) (ag0.w 47)
            refine ⟨o', B', C', ?_, by omega, q3, by rw [if_pos l0]; exact q4⟩
            unfold wrr
            rw [if_pos l0, st0, cF_w _ _ (by decide)]
            exact q1
          · obtain ⟨o', B', C', q1, q2, q3, q4⟩ := write_loop rl (pt I 183 (gP_X4_turnAround 60 P')) Y g3 (vw_pt _ _ _) t1 hn' yN l 0 0 (I 185) (Y 197) (by omega) (by omega) ag0
            refine ⟨o', B', C', ?_, by omega, q3, by rw [if_neg l0]; exact q4⟩
            unfold wrr
            rw [if_neg l0, st0]
            exact q1
        -- the class's end
        obtain ⟨o1, B1, _, c1, c2, _, _⟩ := run (nF I N0) N0 (nF_N _ _) g4
        have c1' := c1
        rw [c1] at uE
        -- the reference, where the class has ended
        have xo : ∀ y, y ≠ 0 → y ≠ 183 → y ≠ 184 → y ≠ 185 → cF (pt I 183 (gP_X4_turnAround 60 P')) (nI o1) B1 y = I y := fun y q1 q2 q3 q4 => by rw [cF_o _ _ _ q1 q4, pt_out (by omega)]
        have x0 : ∀ j, j ≠ 11 → cF (pt I 183 (gP_X4_turnAround 60 P')) (nI o1) B1 0 j = I 0 j := fun j hj => by rw [cF_k _ _ _ hj, pt_out (by omega)]
        have x11 : cF (pt I 183 (gP_X4_turnAround 60 P')) (nI o1) B1 0 11 = nI o1 := cF_c _ _ _
        have x185 : cF (pt I 183 (gP_X4_turnAround 60 P')) (nI o1) B1 185 = B1 := cF_B _ _ _
        rw [x11] at uE
        generalize cF (pt I 183 (gP_X4_turnAround 60 P')) (nI o1) B1 = X1 at uE xo x0 x11 x185 c1'
        have y94 : up2 X1 188 25 0 194 = I 194 := by rw [up2_o _ _ _ (by decide), xo _ (by decide) (by decide) (by decide) (by decide)]
        obtain ⟨l2, P2, N2, a1, a2, a3, a4, a5⟩ := path_up i m1 m2 rl (up2 X1 188 25 0) (by rw [y94]; exact r) (vw 1 I 16) h0 e064 61 e kn' 0 120 0 (gP_X4_clear 60 (vw 2 I 183)) (up2 X1 188 25 0 198) eA ke knn (by omega) (by omega) (by omega) (by unfold gP_X4_clear; rw [uv_s]; rfl) (fun j hj => by omega)
        rw [nF_id] at a5
        obtain ⟨t3, t4⟩ := turn_q a2 a3
        have tt : gP_X4_turnAround 60 P2 = gP_X4_turnAround 60 P' := a1.symm.trans g1
        have ll : l2 = l := (nI_eq (by omega) (by omega)).mp (t3.symm.trans (by rw [tt]; exact t1))
        subst ll
        obtain ⟨o', B', C', d1, d2, d3, d4⟩ := run (nF (up2 X1 188 25 0) N2) N2 (nF_N _ _) (fun j hj => by
          have w1 := t2 (l2 - 1 - j) (by omega)
          have w2 := t4 (l2 - 1 - j) (by omega)
          rw [tt] at w2
          rw [show l2 - 1 - (l2 - 1 - j) = j by omega] at w1 w2
          rw [← w1, w2]
          exact a4 j hj)
        have same : X1 = cF (pt I 183 (gP_X4_turnAround 60 P')) (nI o') B' := c1'.symm.trans d1
        have oo : o1 = o' := (nI_eq (by omega) (by omega)).mp (x11.symm.trans (by rw [same]; exact cF_c _ _ _))
        have bb : B1 = B' := by rw [← x185, same]; exact cF_B _ _ _
        subst oo bb
        have f25 : nF (up2 X1 188 25 0) N2 188 25 = nI 0 := by rw [nF_o _ _ (by decide), up2_s]; rfl
        have z97 : nF (up2 X1 188 25 0) N2 = oF (nF (up2 X1 188 25 0) N2) (nI 0) (nF (up2 X1 188 25 0) N2 197) := by
          have := oF_id (nF (up2 X1 188 25 0) N2)
          rw [f25] at this
          exact this.symm
        have rq0 : rootQ (I 194) (nI e0) = some 0 := fst_is (Nat.zero_le _) (by omega) (by rw [r.B.rt 0 (by decide)]; simpa using h0) (fun w _ hw => by omega)
        have n94 : nF (up2 X1 188 25 0) N2 194 = I 194 := by rw [nF_o _ _ (by decide), y94]
        have fin : Ev T_X10_path 64 [some (mR (some 188)), none, some (mI (nI e0)), some (mI (nI l2)), none, none] [] (nF (up2 X1 188 25 0) N2, J) = some (some (mI (nI o1)), (oF (nF (up2 X1 188 25 0) N2) (nI o1) C', J)) := by
          rw [E_X10_path_64]
          simp only [rl.kt, if_true, w_rootOf rl, n94, rq0, oI, Option.bind_some, asI_I, show nI 0 = 0 from rfl]
          by_cases l0 : l2 = 0
          · rw [if_pos l0] at d4
            rw [if_pos (show nI l2 = 0 by rw [l0]; rfl)]
            have ww := w_writes rl (nF (up2 X1 188 25 0) N2) (nF (up2 X1 188 25 0) N2 197) (o := 0) (by decide) 47
            rw [← z97] at ww
            rw [ww]
            simp only [Option.bind_some, asV_n]
            exact d4
          · rw [if_neg l0] at d4
            rw [if_neg (fun z => l0 ((nI_eq (by omega) (by omega)).mp (z.trans nI_0.symm)))]
            rw [← z97] at d4
            exact d4
        refine ⟨nI o1, (X1, J), oF (nF (up2 X1 188 25 0) N2) (nI o1) C', J, uE, ?_, h.pth h30 ?_ (fun y q0 q1 q2 q3 q4 q5 q6 => ?_) (fun j hj => ?_) (fun j hj => ?_)⟩
        · have td' : ¬ bz (X1 188 13) = 0 := by rw [xo 188 (by decide) (by decide) (by decide) (by decide)]; exact td
          have x94 : X1 194 = I 194 := xo _ (by decide) (by decide) (by decide) (by decide)
          have d8 : ¬ I 194 (701 + 9 * e + 8) = 1 := by rw [en.2.2.2.2.2.2.2, s, if_neg ng]; decide
          rw [E_X10_path]
          simp only [rl.fz, Option.bind_some, if_neg td', inr, asI_I, if_neg a, if_neg (fun z => b (five.mp z)), if_neg i10, rl.f18, rl.ldD _ e11 (show 11 + k < 1853 by omega), x94, d11, z1, if_neg em, rl.wi, rl.kt, if_true, w_its rl _ 8 (show (8 : Int32) = nI 8 from rfl) (show e < 128 by omega) (by decide), y94, if_neg d8]
          rw [show (nI 0) = 0 from rfl] at a5
          rw [a5]
          exact fin
        · refine ⟨o1, d2, ?_, ?_, fun j hj => ?_⟩
          · rw [oF_o _ _ _ (by decide) (by decide), nF_o _ _ (by decide), up2_o _ _ _ (by decide)]; exact x11
          · exact oF_c _ _ _
          · rw [oF_C, oF_o _ _ _ (by decide) (by decide), nF_o _ _ (by decide), up2_o _ _ _ (by decide), x185]
            exact d3 j hj
        · rw [oF_o _ _ _ q4 q5, nF_o _ _ q6, up2_o _ _ _ q4, xo y q0 q1 q2 q3]
        · rw [oF_o _ _ _ (by decide) (by decide), nF_o _ _ (by decide), up2_o _ _ _ (by decide), x0 j hj]
        · rw [oF_k _ _ _ hj, nF_o _ _ (by decide), up2_k _ _ _ hj, xo 188 (by decide) (by decide) (by decide) (by decide)]
      · -- one that is gone
        have ng : ¬ (1 : Int32) = 0 := i10
        rw [s, if_pos rfl] at gq
        obtain ⟨_, kg, kgn, kg4, ku⟩ := i.M.go e e64 s
        have uE := u_path h.1.1 I (nI k) (n := 0) (by
          rw [hA, z1]
          refine pthR_0 I ?_
          rw [nodeOf_q e64 z2, kg4, i.N.ex kgn, if_pos ku]) (by decide)
        rw [hA, z1, if_neg em, gq, if_neg ng] at uE
        refine ⟨0, _, up2 (up2 I 0 11 0) 188 25 0, J, uE, ?_, h.pth h30 ?_ (fun y a _ _ _ b _ _ => by rw [up2_o _ _ _ b, up2_o _ _ _ a]) (fun j hj => by rw [up2_o _ _ _ (by decide), up2_k _ _ _ hj]) (fun j hj => by rw [up2_k _ _ _ hj, up2_o _ _ _ (by decide)])⟩
        · have o194 : up2 I 0 11 0 194 = I 194 := up2_o _ _ _ (by decide)
          have o194' : up2 (up2 I 0 11 0) 188 25 0 194 = I 194 := by rw [up2_o _ _ _ (by decide), o194]
          have d8 : I 194 (701 + 9 * e + 8) = 1 := by rw [en.2.2.2.2.2.2.2, s, if_pos rfl]
          have td' : ¬ bz (up2 I 0 11 0 188 13) = 0 := by rw [up2_o _ _ _ (by decide)]; exact td
          rw [E_X10_path]
          simp only [rl.fz, Option.bind_some, if_neg td', inr, asI_I, if_neg a, if_neg (fun z => b (five.mp z)), if_neg i10, rl.f18, rl.ldD _ e11 (show 11 + k < 1853 by omega), o194, d11, z1, if_neg em, rl.wi, rl.kt, if_true, w_its rl _ 8 (show (8 : Int32) = nI 8 from rfl) (show e < 128 by omega) (by decide), o194', d8]
        · refine ⟨0, by omega, ?_, ?_, fun k hk => by omega⟩
          · rw [up2_o _ _ _ (by decide), up2_s]; rfl
          · rw [up2_s]; rfl
  · have hm : q_X8_handleAt (vw 1 I 16) (vw 1 I 29) x = -1 := by
      unfold q_X8_handleAt
      by_cases a : x < 0
      · rw [if_pos a]
      · rw [if_neg a]
        by_cases b : (6 : Int32) ≤ x
        · rw [if_pos b]
        · rw [if_neg b]
          exact u.2.2.1.2.2.2.2.2.1 _ (lt6 a b)
    refine Pair.ask h h30 (none' hm) (w := -1) ?_ rfl
    rw [E_X10_path]
    simp only [rl.fz, Option.bind_some, u.2.1, if_true]

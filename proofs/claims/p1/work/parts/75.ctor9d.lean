/-! The keeper made. Written by gen/ctor9b.py. -/
theorem Sm.rs {s s' : MH} {x : Nat} (h : Sm s s' x) : jR s'.2 x = jR s.2 x ∧ jS s'.2 x = jS s.2 x := ⟨h.2.2.1, h.2.2.2⟩
theorem kdal {s : MH} {d n c : Nat} (h : sz s = c) : kd (al s d n) c = d := by subst h; exact al_kd s d n
def iniM (m x y : Nat) : Int32 := if (x = m + 9 ∨ x = m + 10) ∧ y < 3 then -1 else 0
def ini (x y : Nat) : Int32 := if x = 9 then (if y = 2 then -1 else 0) else if x < 17 then 0 else if x < 29 then iniM 17 x y else if x = 29 then (if y < 6 then -1 else 0) else if x < 55 then 0 else if x < 67 then iniM 55 x y else if x < 69 then 0 else if x = 69 then (if y = 2 then -1 else 0) else if x < 82 then iniM 70 x y else if x < 94 then iniM 82 x y else 0
theorem c_X9_init {s : MH} (c0 : sz s = 1) (hk : s.2.2.2.1 0 = (9, 16)) (hi : s.1 0 = fun _ => 0) : ∃ s', M_X9_init [mR (some 0)] s = some (none, s') ∧ sz s' = 188 ∧ sl s' = sl s + 4743 ∧ KL s'.2 ∧ (∀ k, jR s'.2 68 k = none) ∧ s'.2.1 0 15 = 1 ∧ ∀ x, x < 188 → s'.1 x = ini x := by
  have k0 : kd s 0 = 9 := congrArg Prod.fst hk
  obtain ⟨s1, es1, gs1, l1, z1⟩ := n_X2 s
  rw [c0] at es1 l1 z1
  have cs1 : sz s1 = 7 := by rw [gs1.1, c0]
  obtain ⟨u2, eu2, gu2, l2, z2⟩ := n_X5 s1
  rw [cs1] at eu2 l2 z2
  have cu2 : sz u2 = 9 := by rw [gu2.1, cs1]
  generalize hs3 : sR u2 0 0 (some 7) = s3
  have cs3 : sz s3 = sz u2 := by rw [← hs3]
  have bs3 : sl s3 = sl u2 := by rw [← hs3]
  have ms3 : ∀ x, x ≠ 0 → Sm u2 s3 x := fun x q => by rw [← hs3]; exact sR_sm u2 _ _ _ x q
  have os3 : C0 u2 s3 := by rw [← hs3]; exact sR_c0 _ _ _ _
  have rs3 : ∀ j, s3.2.2.1 0 j = if j = 0 then some 7 else u2.2.2.1 0 j := fun j => by rw [← hs3]; exact sR_r0 _ _ _ j
  have ds3 : sz s3 = 9 := by rw [cs3, cu2]
  obtain ⟨u4, eu4, gu4, l4, l4n, z4, z4r⟩ := n_X3 s3
  rw [ds3] at eu4 l4 l4n z4 z4r
  have cu4 : sz u4 = 16 := by rw [gu4.1, ds3]
  generalize hs5 : sR u4 0 1 (some 9) = s5
  have cs5 : sz s5 = sz u4 := by rw [← hs5]
  have bs5 : sl s5 = sl u4 := by rw [← hs5]
  have ms5 : ∀ x, x ≠ 0 → Sm u4 s5 x := fun x q => by rw [← hs5]; exact sR_sm u4 _ _ _ x q
  have os5 : C0 u4 s5 := by rw [← hs5]; exact sR_c0 _ _ _ _
  have rs5 : ∀ j, s5.2.2.1 0 j = if j = 1 then some 9 else u4.2.2.1 0 j := fun j => by rw [← hs5]; exact sR_r0 _ _ _ j
  have ds5 : sz s5 = 16 := by rw [cs5, cu4]
  have ca5 : sz (al s5 8 4) = 17 := by show sz s5 + 1 = _; rw [ds5]
  obtain ⟨u6, eu6, gu6, l6, z6⟩ := n_X1 (al s5 8 4) 1
  rw [ca5] at eu6 l6 z6
  have cu6 : sz u6 = 29 := by rw [gu6.1, ca5]
  have ko6 : u6.2.2.2.1 16 = (8, 4) := by
    rw [(gu6.2.2 16 (by omega)).2.2.2]
    have := al_k s5 8 4
    rwa [ds5] at this
  have ro6 : ∀ k, u6.2.2.1 16 k = none := fun k => by
    rw [(gu6.2.2 16 (by omega)).2.2.1]
    show (if 16 = sz s5 then none else _) = none
    rw [if_pos ds5.symm]
  have io6 : u6.1 16 = fun _ => 0 := by
    rw [(gu6.2.2 16 (by omega)).1]
    have := al_0 s5 8 4
    rwa [ds5] at this
  obtain ⟨u7, eu7, x1, x2, x3, x4, x5, x6, x7, x8, x9, x10, x11⟩ := c_X8_init (s := u6) (o := 16) (n := 1) (m := 17) (by omega) ko6 ro6
  rw [cu6] at x1 x3 x7 x8 x9 x10 x11
  have cu7 : sz u7 = 55 := x1
  generalize hs8 : sR u7 0 2 (some 16) = s8
  have cs8 : sz s8 = sz u7 := by rw [← hs8]
  have bs8 : sl s8 = sl u7 := by rw [← hs8]
  have ms8 : ∀ x, x ≠ 0 → Sm u7 s8 x := fun x q => by rw [← hs8]; exact sR_sm u7 _ _ _ x q
  have os8 : C0 u7 s8 := by rw [← hs8]; exact sR_c0 _ _ _ _
  have rs8 : ∀ j, s8.2.2.1 0 j = if j = 2 then some 16 else u7.2.2.1 0 j := fun j => by rw [← hs8]; exact sR_r0 _ _ _ j
  have ds8 : sz s8 = 55 := by rw [cs8, cu7]
  obtain ⟨u9, eu9, gu9, l9, z9⟩ := n_X1 s8 1
  rw [ds8] at eu9 l9 z9
  have cu9 : sz u9 = 67 := by rw [gu9.1, ds8]
  generalize hs10 : sR u9 0 3 (some 55) = s10
  have cs10 : sz s10 = sz u9 := by rw [← hs10]
  have bs10 : sl s10 = sl u9 := by rw [← hs10]
  have ms10 : ∀ x, x ≠ 0 → Sm u9 s10 x := fun x q => by rw [← hs10]; exact sR_sm u9 _ _ _ x q
  have os10 : C0 u9 s10 := by rw [← hs10]; exact sR_c0 _ _ _ _
  have rs10 : ∀ j, s10.2.2.1 0 j = if j = 3 then some 55 else u9.2.2.1 0 j := fun j => by rw [← hs10]; exact sR_r0 _ _ _ j
  have ds10 : sz s10 = 67 := by rw [cs10, cu9]
  obtain ⟨u11, eu11, gu11, l11, l11n, z11⟩ := n_X0 s10
  rw [ds10] at eu11 l11 l11n z11
  have cu11 : sz u11 = 69 := by rw [gu11.1, ds10]
  generalize hs12 : sR u11 0 4 (some 67) = s12
  have cs12 : sz s12 = sz u11 := by rw [← hs12]
  have bs12 : sl s12 = sl u11 := by rw [← hs12]
  have ms12 : ∀ x, x ≠ 0 → Sm u11 s12 x := fun x q => by rw [← hs12]; exact sR_sm u11 _ _ _ x q
  have os12 : C0 u11 s12 := by rw [← hs12]; exact sR_c0 _ _ _ _
  have rs12 : ∀ j, s12.2.2.1 0 j = if j = 4 then some 67 else u11.2.2.1 0 j := fun j => by rw [← hs12]; exact sR_r0 _ _ _ j
  have ds12 : sz s12 = 69 := by rw [cs12, cu11]
  have ca12 : sz (al s12 6 7) = 70 := by show sz s12 + 1 = _; rw [ds12]
  obtain ⟨u13, eu13, gu13, l13, z13⟩ := n_X1 (al s12 6 7) 1
  rw [ca12] at eu13 l13 z13
  have cu13 : sz u13 = 82 := by rw [gu13.1, ca12]
  obtain ⟨u14, eu14, gu14, l14, z14⟩ := n_X1 u13 1
  rw [cu13] at eu14 l14 z14
  have cu14 : sz u14 = 94 := by rw [gu14.1, cu13]
  have ky : u14.2.2.2.1 69 = (6, 7) := by
    rw [(gu14.2.2 69 (by omega)).2.2.2, (gu13.2.2 69 (by omega)).2.2.2]
    have := al_k s12 6 7
    rwa [ds12] at this
  have iy : u14.1 69 = fun _ => 0 := by
    rw [(gu14.2.2 69 (by omega)).1, (gu13.2.2 69 (by omega)).1]
    have := al_0 s12 6 7
    rwa [ds12] at this
  obtain ⟨u15, eu15, y1, y2, y3, y4, y5, y6, y7⟩ := c_X6_init (s := u14) (y := 69) (b := 70) (t := 82) (by omega) ky iy
  rw [cu14] at y1 y3 y5 y7
  have cu15 : sz u15 = 158 := y1
  generalize hs16 : sR u15 0 5 (some 69) = s16
  have cs16 : sz s16 = sz u15 := by rw [← hs16]
  have bs16 : sl s16 = sl u15 := by rw [← hs16]
  have ms16 : ∀ x, x ≠ 0 → Sm u15 s16 x := fun x q => by rw [← hs16]; exact sR_sm u15 _ _ _ x q
  have os16 : C0 u15 s16 := by rw [← hs16]; exact sR_c0 _ _ _ _
  have rs16 : ∀ j, s16.2.2.1 0 j = if j = 5 then some 69 else u15.2.2.1 0 j := fun j => by rw [← hs16]; exact sR_r0 _ _ _ j
  have ds16 : sz s16 = 158 := by rw [cs16, cu15]
  obtain ⟨u17, eu17, gu17, l17, z17⟩ := n_X4_12 s16
  rw [ds16] at eu17 l17 z17
  have cu17 : sz u17 = 160 := by rw [gu17.1, ds16]
  generalize hs18 : sR u17 0 6 (some 158) = s18
  have cs18 : sz s18 = sz u17 := by rw [← hs18]
  have bs18 : sl s18 = sl u17 := by rw [← hs18]
  have ms18 : ∀ x, x ≠ 0 → Sm u17 s18 x := fun x q => by rw [← hs18]; exact sR_sm u17 _ _ _ x q
  have os18 : C0 u17 s18 := by rw [← hs18]; exact sR_c0 _ _ _ _
  have rs18 : ∀ j, s18.2.2.1 0 j = if j = 6 then some 158 else u17.2.2.1 0 j := fun j => by rw [← hs18]; exact sR_r0 _ _ _ j
  have ds18 : sz s18 = 160 := by rw [cs18, cu17]
  obtain ⟨u19, eu19, gu19, l19, z19⟩ := n_X4_12 s18
  rw [ds18] at eu19 l19 z19
  have cu19 : sz u19 = 162 := by rw [gu19.1, ds18]
  generalize hs20 : sR u19 0 7 (some 160) = s20
  have cs20 : sz s20 = sz u19 := by rw [← hs20]
  have bs20 : sl s20 = sl u19 := by rw [← hs20]
  have ms20 : ∀ x, x ≠ 0 → Sm u19 s20 x := fun x q => by rw [← hs20]; exact sR_sm u19 _ _ _ x q
  have os20 : C0 u19 s20 := by rw [← hs20]; exact sR_c0 _ _ _ _
  have rs20 : ∀ j, s20.2.2.1 0 j = if j = 7 then some 160 else u19.2.2.1 0 j := fun j => by rw [← hs20]; exact sR_r0 _ _ _ j
  have ds20 : sz s20 = 162 := by rw [cs20, cu19]
  have ga20 := al_gw s20 13 12
  have ka20 : (al s20 13 12).2.2.2.1 162 = (13, 12) := by have := al_k s20 13 12; rwa [ds20] at this
  have ia20 : (al s20 13 12).1 162 = fun _ => 0 := by have := al_0 s20 13 12; rwa [ds20] at this
  have ca20 : sz (al s20 13 12) = 163 := by show sz s20 + 1 = _; rw [ds20]
  have ba20 : sl (al s20 13 12) = sl s20 + 12 := rfl
  generalize ha20 : al s20 13 12 = a20 at ga20 ka20 ia20 ca20 ba20
  generalize hs22 : sR a20 0 8 (some 162) = s22
  have cs22 : sz s22 = sz a20 := by rw [← hs22]
  have bs22 : sl s22 = sl a20 := by rw [← hs22]
  have ms22 : ∀ x, x ≠ 0 → Sm a20 s22 x := fun x q => by rw [← hs22]; exact sR_sm a20 _ _ _ x q
  have os22 : C0 a20 s22 := by rw [← hs22]; exact sR_c0 _ _ _ _
  have rs22 : ∀ j, s22.2.2.1 0 j = if j = 8 then some 162 else a20.2.2.1 0 j := fun j => by rw [← hs22]; exact sR_r0 _ _ _ j
  have ds22 : sz s22 = 163 := by rw [cs22, ca20]
  generalize hs29 : sR (sR s22 162 0 (some 158)) 162 1 (some 160) = s29
  have ms29 : ∀ x, x ≠ 162 → Sm s22 s29 x := fun x q => by rw [← hs29]; exact (sR_sm s22 _ _ _ x q).trans (sR_sm _ _ _ _ x q)
  have ds29 : sz s29 = 163 := by rw [← hs29]; exact ds22
  have bs29 : sl s29 = sl s22 := by rw [← hs29]
  have is29 : s29.1 = s22.1 := by rw [← hs29]
  have ks29 : s29.2.2.2.1 = s22.2.2.2.1 := by rw [← hs29]
  have k162 : s22.2.2.2.1 162 = (13, 12) := by rw [(ms22 162 (by decide)).2.2.2]; exact ka20
  have qs1 := C0.trans (show C0 s s from ⟨rfl, rfl, rfl⟩) (gs1.2.2 0 (by omega)).c0
  have qu2 := C0.trans qs1 (gu2.2.2 0 (by omega)).c0
  have qs3 := C0.trans qu2 os3
  have qu4 := C0.trans qs3 (gu4.2.2 0 (by omega)).c0
  have qs5 := C0.trans qu4 os5
  have qa5 := C0.trans qs5 (al_sm s5 8 4 0 (by omega)).c0
  have qu6 := C0.trans qa5 (gu6.2.2 0 (by omega)).c0
  have qu7 := C0.trans qu6 (x3 0 (by omega) (by omega)).c0
  have qs8 := C0.trans qu7 os8
  have qu9 := C0.trans qs8 (gu9.2.2 0 (by omega)).c0
  have qs10 := C0.trans qu9 os10
  have qu11 := C0.trans qs10 (gu11.2.2 0 (by omega)).c0
  have qs12 := C0.trans qu11 os12
  have qa12 := C0.trans qs12 (al_sm s12 6 7 0 (by omega)).c0
  have qu13 := C0.trans qa12 (gu13.2.2 0 (by omega)).c0
  have qu14 := C0.trans qu13 (gu14.2.2 0 (by omega)).c0
  have qu15 := C0.trans qu14 (y3 0 (by omega) (by omega)).c0
  have qs16 := C0.trans qu15 os16
  have qu17 := C0.trans qs16 (gu17.2.2 0 (by omega)).c0
  have qs18 := C0.trans qu17 os18
  have qu19 := C0.trans qs18 (gu19.2.2 0 (by omega)).c0
  have qs20 := C0.trans qu19 os20
  have qa20 := C0.trans qs20 (ga20.2.2 0 (by omega)).c0
  have qs22 := C0.trans qa20 os22
  have R1 : ∀ j, s22.2.2.1 0 j = if j = 8 then some 162 else if j = 7 then some 160 else if j = 6 then some 158 else if j = 5 then some 69 else if j = 4 then some 67 else if j = 3 then some 55 else if j = 2 then some 16 else if j = 1 then some 9 else if j = 0 then some 7 else u2.2.2.1 0 j := fun j => by
    rw [rs22, (ga20.2.2 0 (by omega)).2.2.1, rs20, (gu19.2.2 0 (by omega)).2.2.1, rs18, (gu17.2.2 0 (by omega)).2.2.1, rs16, (y3 0 (by omega) (by omega)).2.2.1, (gu14.2.2 0 (by omega)).2.2.1, (gu13.2.2 0 (by omega)).2.2.1, (al_sm s12 6 7 0 (by omega)).2.2.1, rs12, (gu11.2.2 0 (by omega)).2.2.1, rs10, (gu9.2.2 0 (by omega)).2.2.1, rs8, (x3 0 (by omega) (by omega)).2.2.1, (gu6.2.2 0 (by omega)).2.2.1, (al_sm s5 8 4 0 (by omega)).2.2.1, rs5, (gu4.2.2 0 (by omega)).2.2.1, rs3]
  have tol2 : TolK s29.2 2 := by
    intro i hi
    have hh : i = 0 ∨ i = 1 := by omega
    rcases hh with e | e
    · subst e
      refine ⟨?_, ?_⟩
      · rw [← hs29]
        show up2 (up2 s22.2.2.1 162 0 (some 158)) 162 1 (some 160) 162 0 = some 158
        simp [up2]
      · exact l17.bw (b := 160) (fun x h1 h2 => by
          have h1 : 158 ≤ x := h1
          have q := (((((ms18 x (by omega)).trans (gu19.2.2 x (by omega))).trans (ms20 x (by omega))).trans (ga20.2.2 x (by omega))).trans (ms22 x (by omega))).trans (ms29 x (by omega))
          exact ⟨q.2.2.1, q.2.2.2⟩) (by decide)
    · subst e
      refine ⟨?_, ?_⟩
      · rw [← hs29]
        show up2 (up2 s22.2.2.1 162 0 (some 158)) 162 1 (some 160) 162 1 = some 160
        simp [up2]
      · exact l19.bw (b := 162) (fun x h1 h2 => by
          have h1 : 160 ≤ x := h1
          have q := (((ms20 x (by omega)).trans (ga20.2.2 x (by omega))).trans (ms22 x (by omega))).trans (ms29 x (by omega))
          exact ⟨q.2.2.1, q.2.2.2⟩) (by decide)
  obtain ⟨s30, es30, v1, v2, v3, v4, v6, v7, v8⟩ := lp_X9_init 10 2 s29 rfl (by decide) ((congrArg Prod.fst ((ms29 0 (by decide)).2.2.2)).trans ((congrArg Prod.fst qs22.2.1).trans k0)) ((congrFun (ms29 0 (by decide)).2.2.1 8).trans ((R1 8).trans rfl)) (by rw [ks29]; exact k162) ds29 tol2 (fun x h1 h2 => absurd h2 (by omega))
  have sm0 : Sm s22 s30 0 := (ms29 0 (by decide)).trans (v3 0 (by decide) (by decide))
  have q30 := C0.trans qs22 sm0.c0
  obtain ⟨u31, eu31, gu31, l31, z31⟩ := n_X4_60 s30
  rw [v1] at eu31 l31 z31
  have cu31 : sz u31 = 185 := by rw [gu31.1, v1]
  generalize hs32 : sR u31 0 9 (some 183) = s32
  have cs32 : sz s32 = sz u31 := by rw [← hs32]
  have bs32 : sl s32 = sl u31 := by rw [← hs32]
  have ms32 : ∀ x, x ≠ 0 → Sm u31 s32 x := fun x q => by rw [← hs32]; exact sR_sm u31 _ _ _ x q
  have os32 : C0 u31 s32 := by rw [← hs32]; exact sR_c0 _ _ _ _
  have rs32 : ∀ j, s32.2.2.1 0 j = if j = 9 then some 183 else u31.2.2.1 0 j := fun j => by rw [← hs32]; exact sR_r0 _ _ _ j
  have ds32 : sz s32 = 185 := by rw [cs32, cu31]
  have q31 := C0.trans q30 (gu31.2.2 0 (by omega)).c0
  have q32 := C0.trans q31 os32
  have kd32 : kd s32 0 = 9 := ((congrArg Prod.fst q32.2.1).trans k0)
  have a33 := aws_a 0 [(11, 300, 10), (11, 6, 12), (11, 4, 13)] s32 (by omega)
  have w33 := aws_sz 0 [(11, 300, 10), (11, 6, 12), (11, 4, 13)] s32
  have sm33 := aws_sm 0 [(11, 300, 10), (11, 6, 12), (11, 4, 13)] s32
  have n33 := fun i q hq => aws_new 0 [(11, 300, 10), (11, 6, 12), (11, 4, 13)] s32 i q (by omega) hq
  have es33 : ∀ f : MH → Option MO, ((nw s32 11 300).bind fun s6 => (wR s6 9 0 10 (some (sz s32))).bind fun s7 => (nw s7 11 6).bind fun s8 => (wR s8 9 0 12 (some (sz s7))).bind fun s9 => (nw s9 11 4).bind fun s10 => (wR s10 9 0 13 (some (sz s9))).bind f) = f (aws 0 [(11, 300, 10), (11, 6, 12), (11, 4, 13)] s32) := by
    intro f
    show ((nw (aws 0 [] s32) 11 300).bind fun s1 => (wR s1 9 0 10 (some (sz (aws 0 [] s32)))).bind _) = _
    rw [aw_step kd32 (by omega) _ 11 300 10 300 (by decide) (by decide) (by decide), aw_step kd32 (by omega) _ 11 6 12 6 (by decide) (by decide) (by decide), aw_step kd32 (by omega) _ 11 4 13 4 (by decide) (by decide) (by decide)]
    rfl
  generalize hs33 : aws 0 [(11, 300, 10), (11, 6, 12), (11, 4, 13)] s32 = s33 at a33 w33 sm33 n33 es33
  have kd33 : kd s33 0 = 9 := (congrArg Prod.fst a33.2.2.1).trans kd32
  have R2 : ∀ j, s33.2.2.1 0 j = match rk [(11, 300, 10), (11, 6, 12), (11, 4, 13)] 185 j with
    | some x => some x
    | none => if j = 9 then some 183 else s22.2.2.1 0 j := fun j => by
    rw [a33.2.2.2 j, ds32, rs32, (gu31.2.2 0 (by omega)).2.2.1, sm0.2.2.1]
    rfl
  have T32 : ∀ x, 0 < x → x < 185 → Sm s32 s33 x := fun x h0 h1 => sm33 x (by omega) (by omega)
  have T31 : ∀ x, 0 < x → x < 185 → Sm u31 s33 x := fun x h0 h1 => (ms32 x (by omega)).trans (T32 x (by omega) (by omega))
  have T30 : ∀ x, 0 < x → x < 183 → Sm s30 s33 x := fun x h0 h1 => (gu31.2.2 x (by omega)).trans (T31 x (by omega) (by omega))
  have T29 : ∀ x, 0 < x → x < 163 → x ≠ 162 → Sm s29 s33 x := fun x h0 h1 n162 => (v3 x (by omega) (by omega)).trans (T30 x (by omega) (by omega))
  have T22 : ∀ x, 0 < x → x < 163 → x ≠ 162 → Sm s22 s33 x := fun x h0 h1 n162 => (ms29 x (by omega)).trans (T29 x (by omega) (by omega) (by omega))
  have Ta20 : ∀ x, 0 < x → x < 163 → x ≠ 162 → Sm a20 s33 x := fun x h0 h1 n162 => (ms22 x (by omega)).trans (T22 x (by omega) (by omega) (by omega))
  have T20 : ∀ x, 0 < x → x < 162 → Sm s20 s33 x := fun x h0 h1 => (ga20.2.2 x (by omega)).trans (Ta20 x (by omega) (by omega) (by omega))
  have Tu19 : ∀ x, 0 < x → x < 162 → Sm u19 s33 x := fun x h0 h1 => (ms20 x (by omega)).trans (T20 x (by omega) (by omega))
  have T18 : ∀ x, 0 < x → x < 160 → Sm s18 s33 x := fun x h0 h1 => (gu19.2.2 x (by omega)).trans (Tu19 x (by omega) (by omega))
  have Tu17 : ∀ x, 0 < x → x < 160 → Sm u17 s33 x := fun x h0 h1 => (ms18 x (by omega)).trans (T18 x (by omega) (by omega))
  have T16 : ∀ x, 0 < x → x < 158 → Sm s16 s33 x := fun x h0 h1 => (gu17.2.2 x (by omega)).trans (Tu17 x (by omega) (by omega))
  have Tu15 : ∀ x, 0 < x → x < 158 → Sm u15 s33 x := fun x h0 h1 => (ms16 x (by omega)).trans (T16 x (by omega) (by omega))
  have Tu14 : ∀ x, 0 < x → x < 94 → x ≠ 69 → Sm u14 s33 x := fun x h0 h1 n69 => (y3 x (by omega) (by omega)).trans (Tu15 x (by omega) (by omega))
  have Tu13 : ∀ x, 0 < x → x < 82 → x ≠ 69 → Sm u13 s33 x := fun x h0 h1 n69 => (gu14.2.2 x (by omega)).trans (Tu14 x (by omega) (by omega) (by omega))
  have Ta12 : ∀ x, 0 < x → x < 70 → x ≠ 69 → Sm (al s12 6 7) s33 x := fun x h0 h1 n69 => (gu13.2.2 x (by omega)).trans (Tu13 x (by omega) (by omega) (by omega))
  have T12 : ∀ x, 0 < x → x < 69 → Sm s12 s33 x := fun x h0 h1 => (al_sm s12 6 7 x (by omega)).trans (Ta12 x (by omega) (by omega) (by omega))
  have Tu11 : ∀ x, 0 < x → x < 69 → Sm u11 s33 x := fun x h0 h1 => (ms12 x (by omega)).trans (T12 x (by omega) (by omega))
  have T10 : ∀ x, 0 < x → x < 67 → Sm s10 s33 x := fun x h0 h1 => (gu11.2.2 x (by omega)).trans (Tu11 x (by omega) (by omega))
  have Tu9 : ∀ x, 0 < x → x < 67 → Sm u9 s33 x := fun x h0 h1 => (ms10 x (by omega)).trans (T10 x (by omega) (by omega))
  have T8 : ∀ x, 0 < x → x < 55 → Sm s8 s33 x := fun x h0 h1 => (gu9.2.2 x (by omega)).trans (Tu9 x (by omega) (by omega))
  have Tu7 : ∀ x, 0 < x → x < 55 → Sm u7 s33 x := fun x h0 h1 => (ms8 x (by omega)).trans (T8 x (by omega) (by omega))
  have Tu6 : ∀ x, 0 < x → x < 29 → x ≠ 16 → Sm u6 s33 x := fun x h0 h1 n16 => (x3 x (by omega) (by omega)).trans (Tu7 x (by omega) (by omega))
  have Ta5 : ∀ x, 0 < x → x < 17 → x ≠ 16 → Sm (al s5 8 4) s33 x := fun x h0 h1 n16 => (gu6.2.2 x (by omega)).trans (Tu6 x (by omega) (by omega) (by omega))
  have T5 : ∀ x, 0 < x → x < 16 → Sm s5 s33 x := fun x h0 h1 => (al_sm s5 8 4 x (by omega)).trans (Ta5 x (by omega) (by omega) (by omega))
  have Tu4 : ∀ x, 0 < x → x < 16 → Sm u4 s33 x := fun x h0 h1 => (ms5 x (by omega)).trans (T5 x (by omega) (by omega))
  have T3 : ∀ x, 0 < x → x < 9 → Sm s3 s33 x := fun x h0 h1 => (gu4.2.2 x (by omega)).trans (Tu4 x (by omega) (by omega))
  have Tu2 : ∀ x, 0 < x → x < 9 → Sm u2 s33 x := fun x h0 h1 => (ms3 x (by omega)).trans (T3 x (by omega) (by omega))
  have Ts1 : ∀ x, 0 < x → x < 7 → Sm s1 s33 x := fun x h0 h1 => (gu2.2.2 x (by omega)).trans (Tu2 x (by omega) (by omega))
  have hKL : KL s33.2 := by
    refine ⟨⟨kd33, (R2 0).trans (R1 0), (R2 1).trans (R1 1), (R2 2).trans (R1 2), (R2 3).trans (R1 3), (R2 4).trans (R1 4), (R2 5).trans (R1 5), (R2 6).trans (R1 6), (R2 7).trans (R1 7), (R2 8).trans (R1 8), (R2 9).trans rfl, (R2 10).trans rfl, (R2 12).trans rfl, (R2 13).trans rfl⟩, ⟨?_, ?_, ?_, ?_, ?_, ?_, ?_, ?_, ?_, ?_, ?_, ?_, ?_⟩, ?_, ?_, ?_⟩
    · exact l2.bw (b := 9) (fun x h1 h2 => (Tu2 x (by omega) (by omega)).rs) (by decide)
    · exact l4.bw (b := 10) (fun x h1 h2 => (Tu4 x (by omega) (by omega)).rs) (by decide)
    · exact l4n.bw (b := 16) (fun x h1 h2 => (Tu4 x (by omega) (by omega)).rs) (by decide)
    · exact l1.bw (b := 7) (fun x h1 h2 => (Ts1 x (by omega) (by omega)).rs) (by decide)
    · exact x7.bw (b := 17) (fun x h1 h2 => (Tu7 x (by omega) (by omega)).rs) (by decide)
    · exact l6.bw (b := 29) (fun x h1 h2 => (Tu6 x (by omega) (by omega) (by omega)).rs) (by decide)
    · exact x8.bw (b := 30) (fun x h1 h2 => (Tu7 x (by omega) (by omega)).rs) (by decide)
    · exact x9.bw (b := 55) (fun x h1 h2 => (Tu7 x (by omega) (by omega)).rs) (by decide) (by decide)
    · exact l9.bw (b := 67) (fun x h1 h2 => (Tu9 x (by omega) (by omega)).rs) (by decide)
    · exact l11.bw (b := 69) (fun x h1 h2 => (Tu11 x (by omega) (by omega)).rs) (by decide)
    · have g := fun x (h0 : 0 < x) (h1 : x < 158) => (Tu15 x h0 h1).rs
      obtain ⟨t1, t2, t3, t4, t5, t6, t7, t8, t9, t10, t11⟩ := y5
      refine ⟨?_, ?_, ?_, ?_, ?_, ?_, ?_, fun k hk => ⟨?_, ?_⟩, ?_, fun r hr => ⟨?_, ?_⟩, ?_, ?_, ?_, ?_, by decide⟩
      · rw [(g 69 (by decide) (by decide)).2]; exact t1
      · rw [(g 69 (by decide) (by decide)).1]; exact t2
      · rw [(g 69 (by decide) (by decide)).1]; exact t3
      · rw [(g 69 (by decide) (by decide)).1]; exact t4
      · rw [(g 69 (by decide) (by decide)).1]; exact t5
      · rw [(g 69 (by decide) (by decide)).1]; exact t6
      · rw [(g 94 (by decide) (by decide)).2]; exact t7
      · rw [(g 94 (by decide) (by decide)).1]; exact (t8 k hk).1
      · exact (t8 k hk).2.bw (b := 134 + 2 * k + 2) (fun x h1 h2 => (Tu15 x (by omega) (by omega)).rs) (by omega)
      · rw [(g 95 (by decide) (by decide)).2]; exact t9
      · rw [(g 95 (by decide) (by decide)).1]; exact (t10 r hr).1
      · rw [(g (69 + 27 + r) (by omega) (by omega)).2]; exact (t10 r hr).2
      · rw [(g 133 (by decide) (by decide)).2]; exact t11
      · exact l13.bw (b := 82) (fun x h1 h2 => (Tu13 x (by omega) (by omega) (by omega)).rs) (by decide)
      · exact l14.bw (b := 94) (fun x h1 h2 => (Tu14 x (by omega) (by omega) (by omega)).rs) (by decide)
      · exact l1.bw (b := 7) (fun x h1 h2 => (Ts1 x (by omega) (by omega)).rs) (by decide)
    · refine ⟨?_, fun k hk => ⟨?_, ?_⟩⟩
      · rw [show jS s33.2 (158 + 4) = jS s30.2 162 from (T30 162 (by decide) (by decide)).rs.2]; exact v6
      · rw [show jR s33.2 (158 + 4) = jR s30.2 162 from (T30 162 (by decide) (by decide)).rs.1]; exact (v7 k hk).1
      · have hrr : 158 ≤ rr 158 k ∧ rr 158 k + 2 ≤ 183 := by unfold rr; split <;> omega
        exact (v7 k hk).2.bw (b := rr 158 k + 2) (fun x h1 h2 => (T30 x (by omega) (by omega)).rs) (by omega)
    · exact l31.bw (b := 185) (fun x h1 h2 => (T31 x (by omega) (by omega)).rs) (by decide)
    · have u := fun i q hq => (n33 i q hq).2.1
      rw [ds32] at u
      exact u 0 _ rfl
    · have u := fun i q hq => (n33 i q hq).2.1
      rw [ds32] at u
      exact u 1 _ rfl
    · have u := fun i q hq => (n33 i q hq).2.1
      rw [ds32] at u
      exact u 2 _ rfl
  have hI : ∀ x, x < 188 → s33.1 x = ini x := by
    intro x hx
    by_cases e0 : x = 0
    · subst e0
      rw [a33.1, q32.1, hi]
      rfl
    by_cases e6 : x ≤ 6
    · rw [(Ts1 x (by omega) (by omega)).1, z1 x (by omega) (by omega)]
      funext y
      unfold ini
      rw [if_neg (by omega), if_pos (by omega)]
    by_cases e8 : x ≤ 8
    · rw [(Tu2 x (by omega) (by omega)).1, z2 x (by omega) (by omega)]
      funext y
      unfold ini
      rw [if_neg (by omega), if_pos (by omega)]
    by_cases e9 : x ≤ 9
    · have ex : x = 9 := by omega
      subst ex
      rw [(Tu4 9 (by omega) (by omega)).1, z4r]
      rfl
    by_cases e15 : x ≤ 15
    · rw [(Tu4 x (by omega) (by omega)).1, z4 x (by omega) (by omega)]
      funext y
      unfold ini
      rw [if_neg (by omega), if_pos (by omega)]
    by_cases e16 : x ≤ 16
    · have ex : x = 16 := by omega
      subst ex
      rw [(Tu7 16 (by omega) (by omega)).1, x4, io6]
      rfl
    by_cases e28 : x ≤ 28
    · have en : ∀ y, ini x y = iniM 17 x y := fun y => by
        unfold ini
        rw [if_neg (by omega), if_neg (by omega), if_pos (by omega)]
      rw [(Tu6 x (by omega) (by omega) (by omega)).1, z6 x (by omega) (by omega)]
      funext y
      rw [en]
      rfl
    by_cases e29 : x ≤ 29
    · have ex : x = 29 := by omega
      subst ex
      rw [(Tu7 29 (by omega) (by omega)).1, x11]
      rfl
    by_cases e54 : x ≤ 54
    · rw [(Tu7 x (by omega) (by omega)).1, x10 x (by omega) (by omega)]
      funext y
      unfold ini
      rw [if_neg (by omega), if_neg (by omega), if_neg (by omega), if_neg (by omega), if_pos (by omega)]
    by_cases e66 : x ≤ 66
    · have en : ∀ y, ini x y = iniM 55 x y := fun y => by
        unfold ini
        rw [if_neg (by omega), if_neg (by omega), if_neg (by omega), if_neg (by omega), if_neg (by omega), if_pos (by omega)]
      rw [(Tu9 x (by omega) (by omega)).1, z9 x (by omega) (by omega)]
      funext y
      rw [en]
      rfl
    by_cases e68 : x ≤ 68
    · rw [(Tu11 x (by omega) (by omega)).1, z11 x (by omega) (by omega)]
      funext y
      unfold ini
      rw [if_neg (by omega), if_neg (by omega), if_neg (by omega), if_neg (by omega), if_neg (by omega), if_neg (by omega), if_pos (by omega)]
    by_cases e69 : x ≤ 69
    · have ex : x = 69 := by omega
      subst ex
      rw [(Tu15 69 (by omega) (by omega)).1, y6]
      rfl
    by_cases e81 : x ≤ 81
    · have en : ∀ y, ini x y = iniM 70 x y := fun y => by
        unfold ini
        rw [if_neg (by omega), if_neg (by omega), if_neg (by omega), if_neg (by omega), if_neg (by omega), if_neg (by omega), if_neg (by omega), if_neg (by omega), if_pos (by omega)]
      rw [(Tu13 x (by omega) (by omega) (by omega)).1, z13 x (by omega) (by omega)]
      funext y
      rw [en]
      rfl
    by_cases e93 : x ≤ 93
    · have en : ∀ y, ini x y = iniM 82 x y := fun y => by
        unfold ini
        rw [if_neg (by omega), if_neg (by omega), if_neg (by omega), if_neg (by omega), if_neg (by omega), if_neg (by omega), if_neg (by omega), if_neg (by omega), if_neg (by omega), if_pos (by omega)]
      rw [(Tu14 x (by omega) (by omega) (by omega)).1, z14 x (by omega) (by omega)]
      funext y
      rw [en]
      rfl
    by_cases e157 : x ≤ 157
    · rw [(Tu15 x (by omega) (by omega)).1, y7 x (by omega) (by omega)]
      funext y
      unfold ini
      rw [if_neg (by omega), if_neg (by omega), if_neg (by omega), if_neg (by omega), if_neg (by omega), if_neg (by omega), if_neg (by omega), if_neg (by omega), if_neg (by omega), if_neg (by omega)]
    by_cases e159 : x ≤ 159
    · rw [(Tu17 x (by omega) (by omega)).1, z17 x (by omega) (by omega)]
      funext y
      unfold ini
      rw [if_neg (by omega), if_neg (by omega), if_neg (by omega), if_neg (by omega), if_neg (by omega), if_neg (by omega), if_neg (by omega), if_neg (by omega), if_neg (by omega), if_neg (by omega)]
    by_cases e161 : x ≤ 161
    · rw [(Tu19 x (by omega) (by omega)).1, z19 x (by omega) (by omega)]
      funext y
      unfold ini
      rw [if_neg (by omega), if_neg (by omega), if_neg (by omega), if_neg (by omega), if_neg (by omega), if_neg (by omega), if_neg (by omega), if_neg (by omega), if_neg (by omega), if_neg (by omega)]
    by_cases e162 : x ≤ 162
    · have ex : x = 162 := by omega
      subst ex
      rw [(T30 162 (by omega) (by omega)).1, v4, is29, (ms22 162 (by decide)).1, ia20]
      rfl
    by_cases e182 : x ≤ 182
    · rw [(T30 x (by omega) (by omega)).1, v8 x (by omega) (by omega)]
      funext y
      unfold ini
      rw [if_neg (by omega), if_neg (by omega), if_neg (by omega), if_neg (by omega), if_neg (by omega), if_neg (by omega), if_neg (by omega), if_neg (by omega), if_neg (by omega), if_neg (by omega)]
    by_cases e184 : x ≤ 184
    · rw [(T31 x (by omega) (by omega)).1, z31 x (by omega) (by omega)]
      funext y
      unfold ini
      rw [if_neg (by omega), if_neg (by omega), if_neg (by omega), if_neg (by omega), if_neg (by omega), if_neg (by omega), if_neg (by omega), if_neg (by omega), if_neg (by omega), if_neg (by omega)]
    have u := fun i q hq => (n33 i q hq).1
    rw [ds32] at u
    have hh : x = 185 ∨ x = 186 ∨ x = 187 := by omega
    rcases hh with e | e | e
    · subst e; exact u 0 _ rfl
    · subst e; exact u 1 _ rfl
    · subst e; exact u 2 _ rfl
  refine ⟨sL s33 0 15 1, ?_, ?_, ?_, ?_, ?_, ?_, ?_⟩
  · rw [E_X9_init, c0, if_pos (kdal c0), es1]
    simp only [Option.bind_some, asV_n]
    rw [cs1, if_pos (kdal cs1), eu2]
    simp only [Option.bind_some, asV_n]
    rw [wR_ok (show kd _ 0 = 9 from ((congrArg Prod.fst qu2.2.1).trans k0)), Option.bind_some, hs3, ds3, if_pos (kdal ds3), eu4]
    simp only [Option.bind_some, asV_n]
    rw [wR_ok (show kd _ 0 = 9 from ((congrArg Prod.fst qu4.2.1).trans k0)), Option.bind_some, hs5, ca5, if_pos (kdal ca5), eu6]
    simp only [Option.bind_some, asV_n]
    rw [ds5, if_pos (show kd u6 16 = 8 from congrArg Prod.fst ko6), eu7]
    simp only [Option.bind_some, asV_n]
    rw [wR_ok (show kd _ 0 = 9 from ((congrArg Prod.fst qu7.2.1).trans k0)), Option.bind_some, hs8, ds8, if_pos (kdal ds8), eu9]
    simp only [Option.bind_some, asV_n]
    rw [wR_ok (show kd _ 0 = 9 from ((congrArg Prod.fst qu9.2.1).trans k0)), Option.bind_some, hs10, ds10, if_pos (kdal ds10), eu11]
    simp only [Option.bind_some, asV_n]
    rw [wR_ok (show kd _ 0 = 9 from ((congrArg Prod.fst qu11.2.1).trans k0)), Option.bind_some, hs12, ca12, if_pos (kdal ca12), eu13]
    simp only [Option.bind_some, asV_n]
    rw [cu13, if_pos (kdal cu13), eu14]
    simp only [Option.bind_some, asV_n]
    rw [ds12, if_pos (show kd u14 69 = 6 from congrArg Prod.fst ky), eu15]
    simp only [Option.bind_some, asV_n]
    rw [wR_ok (show kd _ 0 = 9 from ((congrArg Prod.fst qu15.2.1).trans k0)), Option.bind_some, hs16, ds16, if_pos (kdal ds16), eu17]
    simp only [Option.bind_some, asV_n]
    rw [wR_ok (show kd _ 0 = 9 from ((congrArg Prod.fst qu17.2.1).trans k0)), Option.bind_some, hs18, ds18, if_pos (kdal ds18), eu19]
    simp only [Option.bind_some, asV_n]
    rw [wR_ok (show kd _ 0 = 9 from ((congrArg Prod.fst qu19.2.1).trans k0)), Option.bind_some, hs20, nw_ok _ 13 12 12 (by decide) (by decide) (by decide), Option.bind_some, ds20, ha20, wR_ok (show kd _ 0 = 9 from ((congrArg Prod.fst qa20.2.1).trans k0)), Option.bind_some, hs22]
    have kk : kd s22 0 = 9 := ((congrArg Prod.fst qs22.2.1).trans k0)
    have ek : ∀ i v, i < 2 → kd s22 v = 4 → ∀ t : MH, t.2.2.2.1 = s22.2.2.2.1 → stR t 162 (nI i) (some v) = some (sR t 162 i (some v)) := fun i v hi2 hv t ht => by
      unfold stR
      have kt : kd t 162 = 13 := by rw [show kd t 162 = (t.2.2.2.1 162).1 from rfl, ht, k162]
      rw [if_pos, show (nI i).toNatClampNeg = i from ix_nI (by omega)]
      refine ⟨by rw [kt]; decide, ?_, ?_⟩
      · rw [show ln t 162 = 12 by rw [show ln t 162 = (t.2.2.2.1 162).2 from rfl, ht, k162]]
        exact inb_nI (by omega) (by decide)
      · rw [kt]
        have hv2 : kd t v = 4 := by rw [show kd t v = (t.2.2.2.1 v).1 from rfl, ht]; exact hv
        show (13 == 13 && kd t v == 4 || 13 == 14 && kd t v == 7 || 13 == 15 && kd t v == 8) = true
        rw [hv2]
        rfl
    have k158 : kd s22 158 = 4 := by
      have q := ((((ms18 158 (by decide)).trans (gu19.2.2 158 (by omega))).trans (ms20 158 (by decide))).trans (ga20.2.2 158 (by omega))).trans (ms22 158 (by decide))
      exact (congrArg Prod.fst q.2.2.2).trans l17.k
    have k160 : kd s22 160 = 4 := by
      have q := ((ms20 160 (by decide)).trans (ga20.2.2 160 (by omega))).trans (ms22 160 (by decide))
      exact (congrArg Prod.fst q.2.2.2).trans l19.k
    have f22 : ∀ k v (t : MH), t.2.2.2.1 = s22.2.2.2.1 → t.2.2.1 0 = s22.2.2.1 0 → s22.2.2.1 0 k = v → fR t 9 0 k = some v := fun k v t h1 h2 h3 => by
      unfold fR
      rw [if_pos (show kd t 0 = 9 by rw [show kd t 0 = (t.2.2.2.1 0).1 from rfl, h1]; exact kk), h2, h3]
    rw [f22 8 _ s22 rfl rfl (R1 8), Option.bind_some, f22 6 _ s22 rfl rfl (R1 6), Option.bind_some]
    show ((stR s22 162 (nI 0) (some 158)).bind _) = _
    rw [ek 0 158 (by decide) k158 s22 rfl, Option.bind_some, f22 8 _ (sR s22 162 0 (some 158)) rfl rfl (R1 8), Option.bind_some, f22 7 _ (sR s22 162 0 (some 158)) rfl rfl (R1 7), Option.bind_some]
    show ((stR (sR s22 162 0 (some 158)) 162 (nI 1) (some 160)).bind _) = _
    rw [ek 1 160 (by decide) k160 (sR s22 162 0 (some 158)) rfl, Option.bind_some, hs29]
    refine es30.trans ?_
    have k30 : kd s30 0 = 9 := ((congrArg Prod.fst q30.2.1).trans k0)
    rw [E_X9_init_161, show fR s30 9 0 8 = some (some 162) by unfold fR; rw [if_pos k30, sm0.2.2.1, R1 8]; rfl, Option.bind_some, Option.bind_some, show aln s30 162 = some (nI 12) by unfold aln; rw [if_pos (by rw [show kd s30 162 = 13 from congrArg Prod.fst v6]; decide), show ln s30 162 = 12 from congrArg Prod.snd v6]; rfl, Option.bind_some, if_pos (Int32.le_refl _), v1, if_pos (kdal v1), eu31]
    simp only [Option.bind_some, asV_n]
    rw [wR_ok (show kd _ 0 = 9 from ((congrArg Prod.fst q31.2.1).trans k0)), Option.bind_some, hs32, es33, show wL s33 9 0 15 1 = some (sL s33 0 15 1) from if_pos kd33, Option.bind_some]
  · show sz s33 = 188
    rw [w33.1, ds32]
    rfl
  · show sl s33 = _
    rw [w33.2, bs32, gu31.2.1, v2, bs29, bs22, ba20, bs20, gu19.2.1, bs18, gu17.2.1, bs16, y2, gu14.2.1, gu13.2.1, show sl (al s12 6 7) = sl s12 + 7 from rfl, bs12, gu11.2.1, bs10, gu9.2.1, bs8, x2, gu6.2.1, show sl (al s5 8 4) = sl s5 + 4 from rfl, bs5, gu4.2.1, bs3, gu2.2.1, gs1.2.1]
    simp only [slo]
  · exact hKL
  · intro k
    show s33.2.2.1 68 k = none
    rw [(Tu11 68 (by decide) (by decide)).2.2.1]
    exact l11n k
  · show (if 0 = 0 ∧ 15 = 15 then (1 : Int64) else s33.2.1 0 15) = 1
    rw [if_pos ⟨rfl, rfl⟩]
  · exact hI

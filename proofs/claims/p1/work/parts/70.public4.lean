/-! Public calls of the class, the last. -/
theorem u_close_no {J : MJ} (h : KL J) (I : MI) (x : Int32) (hn : q_X8_handleAt (vw 1 I 16) (vw 1 I 29) x = -1) : M_X9_close [mR (some 0), mI x] (I, J) = some (some (mI 0), (rfz I 4, J)) := by
  rw [E_X9_close]
  simp only [fR_ok 2 h.k, h.r2, Option.bind_some]
  rw [if_pos (show kd (I, J) 16 = 8 from h.world.k), t_X8_handleAt h.world h.han (by decide) I, hn]
  simp only [Option.bind_some, asI_I]
  rw [if_pos trivial, if_pos (show kd (I, J) 0 = 9 from h.k), show M_X9_refuseFlatly [mR (some 0), mI 4] _ = _ from u_refuseFlatly h I (k := 4) (by decide)]
  simp [asI]
theorem u_close {J : MJ} (h : KL J) (I : MI) (x : Int32) (hn : ¬ q_X8_handleAt (vw 1 I 16) (vw 1 I 29) x = -1) {X : MI} {J1 : MJ} (hk : M_X0_keep [mR (some 67), mR (some 16)] (I, J) = some (none, (X, J1))) (h1 : KL J1) : M_X9_close [mR (some 0), mI x] (I, J) = some (some (mI 1), (pt (pt X 29 (gH_X8_closeHandle (vw 1 X 16) (vw 1 X 29) (vw 12 X 17) x)) 17 (gV_X8_closeHandle (vw 1 X 16) (vw 1 X 29) (vw 12 X 17) x), J1)) := by
  rw [E_X9_close]
  simp only [fR_ok 2 h.k, h.r2, Option.bind_some]
  rw [if_pos (show kd (I, J) 16 = 8 from h.world.k), t_X8_handleAt h.world h.han (by decide) I]
  simp only [Option.bind_some, asI_I]
  rw [if_neg hn]
  simp only [fR_ok 4 h.k, h.r4, fR_ok 2 h.k, h.r2, Option.bind_some]
  rw [if_pos (show kd (_, _) 67 = 0 from h.his.1), hk]
  simp only [Option.bind_some, asV_n, fR_ok 2 h1.k, h1.r2]
  rw [if_pos (show kd (_, _) 16 = 8 from h1.world.k), t_X8_closeHandle h1.world h1.han h1.mem (by decide) (by decide) (by decide)]
  simp [asV]
theorem u_unmount_no {J : MJ} (h : KL J) (I : MI) (x : Int32) (hn : x = 0 ∨ q_X1_isMounted (vw 12 I 17) x = 0 ∨ ¬ q_X1_isBusy (vw 6 I 1) (vw 12 I 17) x = 0) : M_X9_unmount [mR (some 0), mI x] (I, J) = some (some (mI (-1)), (rfz I 3, J)) := by
  have r := show M_X9_refuse [mR (some 0), mI 3] (I, J) = _ from u_refuse h I (k := 3) (by decide)
  have k9 : kd (I, J) 0 = 9 := h.k
  have k1 : kd (I, J) 17 = 1 := h.mem.k
  rw [E_X9_unmount]
  by_cases a : x = 0
  · rw [if_pos a, if_pos k9, r]; rfl
  · rw [if_neg a]
    simp only [fR_ok 2 h.k, h.r2, fR_ok 1 h.world.k, h.world.r1, Option.bind_some, if_pos k1, t_X1_isMounted h.mem I, asI_I]
    by_cases b : q_X1_isMounted (vw 12 I 17) x = 0
    · rw [if_pos b, if_pos k9, r]; rfl
    · rw [if_neg b, t_X1_isBusy h.nodes h.mem (by decide) I]
      simp only [Option.bind_some, asI_I]
      rw [if_neg (hn.elim (fun q => absurd q a) (fun q => q.elim (fun q => absurd q b) id)), if_pos k9, r]
      rfl
theorem u_unmount {J : MJ} (h : KL J) (I : MI) (x : Int32) (a : ¬ x = 0) (b : ¬ q_X1_isMounted (vw 12 I 17) x = 0) (c : q_X1_isBusy (vw 6 I 1) (vw 12 I 17) x = 0) {X : MI} {J1 : MJ} (hk : M_X0_keep [mR (some 67), mR (some 16)] (I, J) = some (none, (X, J1))) (h1 : KL J1) : M_X9_unmount [mR (some 0), mI x] (I, J) = some (some (mI (q_X1_dropVolume (vw 6 X 1) (vw 12 X 17) x)), (pt X 17 (gV_X1_dropVolume (vw 6 X 1) (vw 12 X 17) x), J1)) := by
  have k1 : kd (I, J) 17 = 1 := h.mem.k
  rw [E_X9_unmount, if_neg a]
  simp only [fR_ok 2 h.k, h.r2, fR_ok 1 h.world.k, h.world.r1, Option.bind_some, if_pos k1, t_X1_isMounted h.mem I, asI_I]
  rw [if_neg b, t_X1_isBusy h.nodes h.mem (by decide) I]
  simp only [Option.bind_some, asI_I]
  rw [if_pos c]
  simp only [fR_ok 4 h.k, h.r4, fR_ok 2 h.k, h.r2, Option.bind_some]
  rw [if_pos (show kd (_, _) 67 = 0 from h.his.1), hk]
  simp only [Option.bind_some, asV_n, fR_ok 2 h1.k, h1.r2, fR_ok 1 h1.world.k, h1.world.r1]
  rw [if_pos (show kd (_, _) 17 = 1 from h1.mem.k), t_X1_dropVolume h1.nodes h1.mem (by decide)]
  rfl
theorem u_trim_no {J : MJ} (h : KL J) (I : MI) (x : Int32) (hn : I 1 6 ≤ 0 ∨ x < 1 ∨ ¬ x ≤ 100) : M_X9_trim [mR (some 0), mI x] (I, J) = some (some (mI (-1)), (rfz I 2, J)) := by
  have r := show M_X9_refuse [mR (some 0), mI 2] (I, J) = _ from u_refuse h I (k := 2) (by decide)
  have k9 : kd (I, J) 0 = 9 := h.k
  rw [E_X9_trim, if_pos k9, u_hasTrees h I]
  simp only [Option.bind_some, asI_I, if_pos k9, r]
  by_cases a : I 1 6 ≤ 0
  · rw [if_pos a, if_pos rfl]
  · rw [if_neg a, if_neg (show ¬ (1 : Int32) = 0 by decide)]
    by_cases b : x < 1
    · rw [if_pos b]
    · rw [if_neg b, if_neg (hn.elim (fun q => absurd q a) (fun q => q.elim (fun q => absurd q b) id))]
theorem u_trim {J : MJ} (h : KL J) (I : MI) (x : Int32) (a : ¬ I 1 6 ≤ 0) (b : ¬ x < 1) (c : x ≤ 100) {X : MI} {J1 : MJ} (hk : M_X0_keep [mR (some 67), mR (some 16)] (I, J) = some (none, (X, J1))) (h1 : KL J1) : M_X9_trim [mR (some 0), mI x] (I, J) = some (some (mI (q_X1_trimSome (vw 12 X 17) x)), (pt X 17 (gV_X1_trimSome (vw 12 X 17) x), J1)) := by
  rw [E_X9_trim, if_pos (show kd (I, J) 0 = 9 from h.k), u_hasTrees h I, if_neg a]
  simp only [Option.bind_some, asI_I]
  rw [if_neg (show ¬ (1 : Int32) = 0 by decide), if_neg b, if_pos c]
  simp only [fR_ok 4 h.k, h.r4, fR_ok 2 h.k, h.r2, Option.bind_some]
  rw [if_pos (show kd (_, _) 67 = 0 from h.his.1), hk]
  simp only [Option.bind_some, asV_n, fR_ok 2 h1.k, h1.r2, fR_ok 1 h1.world.k, h1.world.r1]
  rw [if_pos (show kd (_, _) 17 = 1 from h1.mem.k), t_X1_trimSome h1.mem]
  rfl
theorem u_room_no {J : MJ} (h : KL J) (I : MI) (x : Int32) (hn : I 1 6 ≤ 0 ∨ x < 4 ∨ 40 < x ∨ x = I 17 11) : M_X9_room [mR (some 0), mI x] (I, J) = some (some (mI 0), (rfz I 2, J)) := by
  have r := show M_X9_refuseFlatly [mR (some 0), mI 2] (I, J) = _ from u_refuseFlatly h I (k := 2) (by decide)
  have k9 : kd (I, J) 0 = 9 := h.k
  have e : (if (0 : Int32) = 0 ∨ (0 : Int32) = 1 then some (some (mI 0), (rfz I 2, J)) else (none : Option MO)) = some (some (mI 0), (rfz I 2, J)) := if_pos (Or.inl rfl)
  rw [E_X9_room, if_pos k9, u_hasTrees h I, Option.bind_some]
  show (if (if I 1 6 ≤ 0 then (0 : Int32) else 1) = 0 then _ else _) = _
  by_cases a : I 1 6 ≤ 0
  · rw [if_pos a, if_pos rfl, if_pos k9, r]
    exact e
  · rw [if_neg a, if_neg (show ¬ (1 : Int32) = 0 by decide)]
    show (M_X9_isRoom [mI x] (I, J)).bind _ = _
    rw [u_isRoom, Option.bind_some]
    show (if (if x < 4 then (0 : Int32) else if 40 < x then 0 else 1) = 0 then _ else _) = _
    by_cases b : x < 4
    · rw [if_pos b, if_pos rfl, if_pos k9, r]
      exact e
    · rw [if_neg b]
      by_cases c : 40 < x
      · rw [if_pos c, if_pos rfl, if_pos k9, r]
        exact e
      · rw [if_neg c, if_neg (show ¬ (1 : Int32) = 0 by decide)]
        simp only [fR_ok 2 h.k, h.r2, fR_ok 1 h.world.k, h.world.r1, Option.bind_some, fI_ok 11 h.mem.k]
        rw [if_pos (hn.elim (fun q => absurd q a) (fun q => q.elim (fun q => absurd q b) (fun q => q.elim (fun q => absurd q c) id))), if_pos k9, r]
        exact e
theorem u_room {J : MJ} (h : KL J) (I : MI) (x : Int32) (a : ¬ I 1 6 ≤ 0) (b : ¬ x < 4) (c : ¬ 40 < x) (d : ¬ x = I 17 11) {X : MI} {J1 : MJ} (hk : M_X0_keep [mR (some 67), mR (some 16)] (I, J) = some (none, (X, J1))) (h1 : KL J1) : M_X9_room [mR (some 0), mI x] (I, J) = some (some (mI 1), (up2 X 17 11 x, J1)) := by
  rw [E_X9_room, if_pos (show kd (I, J) 0 = 9 from h.k), u_hasTrees h I, if_neg a]
  simp only [Option.bind_some, asI_I, u_isRoom]
  rw [if_neg (show ¬ (1 : Int32) = 0 by decide), if_neg b, if_neg c, if_neg (show ¬ (1 : Int32) = 0 by decide)]
  simp only [fR_ok 2 h.k, h.r2, fR_ok 1 h.world.k, h.world.r1, Option.bind_some, fI_ok 11 h.mem.k]
  rw [if_neg d]
  simp only [fR_ok 4 h.k, h.r4, fR_ok 2 h.k, h.r2, Option.bind_some]
  rw [if_pos (show kd (_, _) 67 = 0 from h.his.1), hk]
  simp only [Option.bind_some, asV_n, fR_ok 2 h1.k, h1.r2, fR_ok 1 h1.world.k, h1.world.r1, wI_ok 11 _ h1.mem.k]
  simp
theorem u_quit_no {J : MJ} (h : KL J) (I : MI) (x : Int32) (hn : q_X8_walkerAt I 31 x = none) : M_X9_quit [mR (some 0), mI x] (I, J) = some (some (mI 0), (rfz I 5, J)) := by
  rw [E_X9_quit]
  simp only [fR_ok 2 h.k, h.r2, Option.bind_some]
  rw [if_pos (show kd (I, J) 16 = 8 from h.world.k), t_X8_walkerAt h.world h.wks I, hn]
  simp only [Option.bind_some, asR_R, cR_n]
  rw [if_pos (show kd (I, J) 0 = 9 from h.k), show M_X9_refuseFlatly [mR (some 0), mI 5] _ = _ from u_refuseFlatly h I (k := 5) (by decide)]
  simp [asI]
/-- a walker has stopped -/
def stpI (X : MI) (w : Nat) : MI := pt (pt X w (gK_X7_stop (vw 1 X w) (vw 3 X (w + 3)) (vw 12 X 17))) 17 (gV_X7_stop (vw 1 X w) (vw 3 X (w + 3)) (vw 12 X 17))
theorem u_quit {J : MJ} (h : KL J) (I : MI) (x : Int32) {k : Nat} (hn : q_X8_walkerAt I 31 x = some (31 + 6 * k)) (hk4 : k < 4) {X : MI} {J1 : MJ} (hk : M_X0_keep [mR (some 67), mR (some 16)] (I, J) = some (none, (X, J1))) (h1 : KL J1) : M_X9_quit [mR (some 0), mI x] (I, J) = some (some (mI 1), (stpI X (31 + 6 * k), J1)) := by
  have q := h1.wks.2 k hk4
  rw [E_X9_quit]
  simp only [fR_ok 2 h.k, h.r2, Option.bind_some]
  rw [if_pos (show kd (I, J) 16 = 8 from h.world.k), t_X8_walkerAt h.world h.wks I, hn]
  simp only [Option.bind_some, asR_R, cR_s, fR_ok 4 h.k, h.r4, fR_ok 2 h.k, h.r2]
  rw [if_pos (show kd (_, _) 67 = 0 from h.his.1), hk]
  simp only [Option.bind_some, asV_n, fR_ok 2 h1.k, h1.r2, fR_ok 1 h1.world.k, h1.world.r1]
  rw [if_pos (show kd (_, _) (31 + 6 * k) = 7 from q.2.1.k), t_X7_stop q.2.1 q.2.2.2 h1.mem (by omega) (by omega) (by omega)]
  simp [asV, stpI]
theorem u_step_no {J : MJ} (h : KL J) (I : MI) (x : Int32) (hn : q_X8_walkerAt I 31 x = none) : M_X9_step [mR (some 0), mI x] (I, J) = some (some (mI (-1)), (rfz I 5, J)) := by
  rw [E_X9_step]
  simp only [fR_ok 2 h.k, h.r2, Option.bind_some]
  rw [if_pos (show kd (I, J) 16 = 8 from h.world.k), t_X8_walkerAt h.world h.wks I, hn]
  simp only [Option.bind_some, asR_R, cR_n]
  rw [if_pos (show kd (I, J) 0 = 9 from h.k), show M_X9_refuse [mR (some 0), mI 5] _ = _ from u_refuse h I (k := 5) (by decide)]
  rfl
def goI (X : MI) (w : Nat) : MI := pt (pt (pt X w (gK_X7_goOn 12 (vw 1 X w) (vw 2 X (w + 1)) (vw 3 X (w + 3)) (vw 6 X 1) (vw 12 X 17))) (w + 3) (gB_X7_goOn 12 (vw 1 X w) (vw 2 X (w + 1)) (vw 3 X (w + 3)) (vw 6 X 1) (vw 12 X 17))) 17 (gV_X7_goOn 12 (vw 1 X w) (vw 2 X (w + 1)) (vw 3 X (w + 3)) (vw 6 X 1) (vw 12 X 17))
def goQ (X : MI) (w : Nat) : Int32 := q_X7_goOn 12 (vw 1 X w) (vw 2 X (w + 1)) (vw 3 X (w + 3)) (vw 6 X 1) (vw 12 X 17)
theorem u_step {J : MJ} (h : KL J) (I : MI) (x : Int32) {k : Nat} (hn : q_X8_walkerAt I 31 x = some (31 + 6 * k)) (hk4 : k < 4) {X : MI} {J1 : MJ} (hk : M_X0_keep [mR (some 67), mR (some 16)] (I, J) = some (none, (X, J1))) (h1 : KL J1) : M_X9_step [mR (some 0), mI x] (I, J) = if goQ X (31 + 6 * k) < 0 then some (some (mI (goQ X (31 + 6 * k))), (stpI (tlo (goI X (31 + 6 * k)) (31 + 6 * k) (goQ X (31 + 6 * k))) (31 + 6 * k), J1)) else if q_X7_isThrough 12 (vw 1 (goI X (31 + 6 * k)) (31 + 6 * k)) (vw 2 (goI X (31 + 6 * k)) (31 + 6 * k + 1)) = 0 then some (some (mI 0), (goI X (31 + 6 * k), J1)) else some (some (mI 1), (stpI (tlo (goI X (31 + 6 * k)) (31 + 6 * k) (goQ X (31 + 6 * k))) (31 + 6 * k), J1)) := by
  have q := h1.wks.2 k hk4
  have k7 : ∀ X : MI, kd (X, J1) (31 + 6 * k) = 7 := fun X => q.2.1.k
  have stp : ∀ X : MI, M_X7_stop [mR (some (31 + 6 * k)), mR (some 17)] (X, J1) = some (none, (stpI X (31 + 6 * k), J1)) := fun X => t_X7_stop q.2.1 q.2.2.2 h1.mem (by omega) (by omega) (by omega) X
  rw [E_X9_step]
  simp only [fR_ok 2 h.k, h.r2, Option.bind_some]
  rw [if_pos (show kd (I, J) 16 = 8 from h.world.k), t_X8_walkerAt h.world h.wks I, hn]
  simp only [Option.bind_some, asR_R, cR_s, fR_ok 4 h.k, h.r4, fR_ok 2 h.k, h.r2]
  rw [if_pos (show kd (_, _) 67 = 0 from h.his.1), hk]
  simp only [Option.bind_some, asV_n, fR_ok 2 h1.k, h1.r2, fR_ok 1 h1.world.k, h1.world.r1]
  rw [if_pos (k7 X), show M_X7_goOn [mR (some (31 + 6 * k)), mR (some 17)] (X, J1) = some (some (mI (goQ X (31 + 6 * k))), (goI X (31 + 6 * k), J1)) from t_X7_goOn q.2.1 q.2.2.1 q.2.2.2 h1.nodes h1.mem (by omega) (by omega) (by omega) (by omega) (by omega) (by omega) (by omega) (by omega) (by omega) (by omega) X]
  simp only [Option.bind_some, asI_I]
  generalize goI X (31 + 6 * k) = Y
  generalize goQ X (31 + 6 * k) = v
  by_cases a : v < 0
  · rw [if_pos a, if_pos a, if_pos (show kd (Y, J1) 0 = 9 from h1.k), u_tellOutcome h1 Y (k7 Y) (by omega) (by omega)]
    simp only [Option.bind_some, asV_n, fR_ok 2 h1.k, h1.r2, fR_ok 1 h1.world.k, h1.world.r1]
    rw [if_pos (k7 _), stp]
    simp only [Option.bind_some, asV_n]
    rw [if_neg (Int32.not_le.mpr a)]
  · rw [if_neg a, if_neg a, if_pos (k7 Y), t_X7_isThrough q.2.1 q.2.2.1 (by omega)]
    simp only [Option.bind_some, asI_I]
    by_cases b : q_X7_isThrough 12 (vw 1 Y (31 + 6 * k)) (vw 2 Y (31 + 6 * k + 1)) = 0
    · rw [if_pos b, if_pos b]
    · rw [if_neg b, if_neg b, if_pos (show kd (Y, J1) 0 = 9 from h1.k), u_tellOutcome h1 Y (k7 Y) (by omega) (by omega)]
      simp only [Option.bind_some, asV_n, fR_ok 2 h1.k, h1.r2, fR_ok 1 h1.world.k, h1.world.r1]
      rw [if_pos (k7 _), stp]
      simp only [Option.bind_some, asV_n]
      rw [if_pos (Int32.not_lt.mp a)]

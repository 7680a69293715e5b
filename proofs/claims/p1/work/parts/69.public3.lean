/-! Public calls of the class that keep the world first. -/
theorem u_look_no {J : MJ} (h : KL J) (I : MI) {T : Nat} (hT : T ≤ 400) (hl : I 7 1 = nI T) (hn : ¬ (rowO I T).1 = 1) : M_X9_look [mR (some 0)] (I, J) = some (some (mI (-1)), (rfz (tkn I T) 2, J)) := by
  rw [E_X9_look, if_pos (show kd (I, J) 0 = 9 from h.k), u_take h I hT hl, if_neg hn]
  simp only [Option.bind_some, asI_I]
  rw [if_pos trivial, if_pos (show kd (_, _) 0 = 9 from h.k), show M_X9_refuse [mR (some 0), mI 2] _ = _ from u_refuse h _ (k := 2) (by decide)]
  rfl
theorem u_look {J : MJ} (h : KL J) (I : MI) {T : Nat} (hT : T ≤ 400) (hl : I 7 1 = nI T) (hy : (rowO I T).1 = 1) {X : MI} {J1 : MJ} (hk : M_X0_keep [mR (some 67), mR (some 16)] (tkn I T, J) = some (none, (X, J1))) (h1 : KL J1) : M_X9_look [mR (some 0)] (I, J) = some (some (mI (q_X1_walk 12 (vw 2 X 158) (vw 6 X 1) (vw 12 X 17) (X 158 1))), (pt X 17 (gV_X1_walk 12 (vw 2 X 158) (vw 6 X 1) (vw 12 X 17) (X 158 1)), J1)) := by
  rw [E_X9_look, if_pos (show kd (I, J) 0 = 9 from h.k), u_take h I hT hl, if_pos hy]
  simp only [Option.bind_some, asI_I]
  rw [if_neg (show ¬ (1 : Int32) = 0 by decide)]
  simp only [fR_ok 4 h.k, h.r4, fR_ok 2 h.k, h.r2, Option.bind_some]
  rw [if_pos (show kd (_, _) 67 = 0 from h.his.1), hk]
  simp only [Option.bind_some, asV_n, fR_ok 2 h1.k, h1.r2, fR_ok 6 h1.k, h1.r6, fR_ok 7 h1.k, h1.r7]
  simp only [fR_ok 1 h1.world.k, h1.world.r1, fI_ok 1 h1.fir.k, Option.bind_some]
  rw [if_pos (show kd (_, _) 17 = 1 from h1.mem.k), t_X1_walk h1.fir h1.nodes h1.mem (by decide) (by decide) (by decide)]
  rfl
theorem u_remove_no {J : MJ} (h : KL J) (I : MI) {T : Nat} (hT : T ≤ 400) (hl : I 7 1 = nI T) (hn : ¬ (rowO I T).1 = 1) : M_X9_remove [mR (some 0)] (I, J) = some (some (mI (-1)), (rfz (tkn I T) 3, J)) := by
  rw [E_X9_remove, if_pos (show kd (I, J) 0 = 9 from h.k), u_take h I hT hl, if_neg hn]
  simp only [Option.bind_some, asI_I]
  rw [if_pos trivial, if_pos (show kd (_, _) 0 = 9 from h.k), show M_X9_refuse [mR (some 0), mI 3] _ = _ from u_refuse h _ (k := 3) (by decide)]
  rfl
theorem u_remove {J : MJ} (h : KL J) (I : MI) {T : Nat} (hT : T ≤ 400) (hl : I 7 1 = nI T) (hy : (rowO I T).1 = 1) {X : MI} {J1 : MJ} (hk : M_X0_keep [mR (some 67), mR (some 16)] (tkn I T, J) = some (none, (X, J1))) (h1 : KL J1) : M_X9_remove [mR (some 0)] (I, J) = if 0 ≤ q_X8_removeAt 12 (vw 1 X 16) (vw 2 X 158) (vw 6 X 1) (vw 12 X 17) then some (some (mI (q_X8_removeAt 12 (vw 1 X 16) (vw 2 X 158) (vw 6 X 1) (vw 12 X 17))), (pt (pt X 1 (gU_X8_removeAt 12 (vw 1 X 16) (vw 2 X 158) (vw 6 X 1) (vw 12 X 17))) 17 (gV_X8_removeAt 12 (vw 1 X 16) (vw 2 X 158) (vw 6 X 1) (vw 12 X 17)), J1)) else some (some (mI (-1)), (rfz (pt (pt X 1 (gU_X8_removeAt 12 (vw 1 X 16) (vw 2 X 158) (vw 6 X 1) (vw 12 X 17))) 17 (gV_X8_removeAt 12 (vw 1 X 16) (vw 2 X 158) (vw 6 X 1) (vw 12 X 17))) 3, J1)) := by
  rw [E_X9_remove, if_pos (show kd (I, J) 0 = 9 from h.k), u_take h I hT hl, if_pos hy]
  simp only [Option.bind_some, asI_I]
  rw [if_neg (show ¬ (1 : Int32) = 0 by decide)]
  simp only [fR_ok 4 h.k, h.r4, fR_ok 2 h.k, h.r2, Option.bind_some]
  rw [if_pos (show kd (_, _) 67 = 0 from h.his.1), hk]
  simp only [Option.bind_some, asV_n, fR_ok 2 h1.k, h1.r2, fR_ok 6 h1.k, h1.r6, fR_ok 7 h1.k, h1.r7]
  rw [if_pos (show kd (_, _) 16 = 8 from h1.world.k), t_X8_removeAt h1.world h1.fir h1.nodes h1.mem (by decide) (by decide) (by decide) (by decide) (by decide) (by decide)]
  simp only [Option.bind_some, asI_I]
  rw [if_pos (show kd (_, _) 0 = 9 from h1.k), show M_X9_orRefuse [mR (some 0), mI _, mI 3] _ = _ from u_orRefuse h1 _ _ (k := 3) (by decide)]
  split <;> rfl
theorem u_rename_no {J : MJ} (h : KL J) (I : MI) {T : Nat} (hT : T ≤ 400) (hl : I 7 1 = nI T) (hn : ¬ (rowO I T).1 = 2) : M_X9_rename [mR (some 0)] (I, J) = some (some (mI (-1)), (rfz (tkn I T) 3, J)) := by
  rw [E_X9_rename, if_pos (show kd (I, J) 0 = 9 from h.k), u_take h I hT hl, if_neg hn]
  simp only [Option.bind_some, asI_I]
  rw [if_pos trivial, if_pos (show kd (_, _) 0 = 9 from h.k), show M_X9_refuse [mR (some 0), mI 3] _ = _ from u_refuse h _ (k := 3) (by decide)]
  rfl
theorem u_rename {J : MJ} (h : KL J) (I : MI) {T : Nat} (hT : T ≤ 400) (hl : I 7 1 = nI T) (hy : (rowO I T).1 = 2) {X : MI} {J1 : MJ} (hk : M_X0_keep [mR (some 67), mR (some 16)] (tkn I T, J) = some (none, (X, J1))) (h1 : KL J1) : M_X9_rename [mR (some 0)] (I, J) = if 0 ≤ q_X8_renameTo 12 12 (vw 1 X 16) (vw 2 X 160) (vw 2 X 158) (vw 6 X 1) (vw 12 X 17) then some (some (mI (q_X8_renameTo 12 12 (vw 1 X 16) (vw 2 X 160) (vw 2 X 158) (vw 6 X 1) (vw 12 X 17))), (pt (pt X 1 (gU_X8_renameTo 12 12 (vw 1 X 16) (vw 2 X 160) (vw 2 X 158) (vw 6 X 1) (vw 12 X 17))) 17 (gV_X8_renameTo 12 12 (vw 1 X 16) (vw 2 X 160) (vw 2 X 158) (vw 6 X 1) (vw 12 X 17)), J1)) else some (some (mI (-1)), (rfz (pt (pt X 1 (gU_X8_renameTo 12 12 (vw 1 X 16) (vw 2 X 160) (vw 2 X 158) (vw 6 X 1) (vw 12 X 17))) 17 (gV_X8_renameTo 12 12 (vw 1 X 16) (vw 2 X 160) (vw 2 X 158) (vw 6 X 1) (vw 12 X 17))) 3, J1)) := by
  rw [E_X9_rename, if_pos (show kd (I, J) 0 = 9 from h.k), u_take h I hT hl, if_pos hy]
  simp only [Option.bind_some, asI_I]
  rw [if_neg (show ¬ (1 : Int32) = 0 by decide)]
  simp only [fR_ok 4 h.k, h.r4, fR_ok 2 h.k, h.r2, Option.bind_some]
  rw [if_pos (show kd (_, _) 67 = 0 from h.his.1), hk]
  simp only [Option.bind_some, asV_n, fR_ok 2 h1.k, h1.r2, fR_ok 6 h1.k, h1.r6, fR_ok 7 h1.k, h1.r7]
  rw [if_pos (show kd (_, _) 16 = 8 from h1.world.k), t_X8_renameTo h1.world h1.sec h1.fir h1.nodes h1.mem (by decide) (by decide) (by decide) (by decide) (by decide) (by decide) (by decide) (by decide) (by decide) (by decide)]
  simp only [Option.bind_some, asI_I]
  rw [if_pos (show kd (_, _) 0 = 9 from h1.k), show M_X9_orRefuse [mR (some 0), mI _, mI 3] _ = _ from u_orRefuse h1 _ _ (k := 3) (by decide)]
  split <;> rfl
theorem u_make_no {J : MJ} (h : KL J) (I : MI) {T : Nat} (hT : T ≤ 400) (hl : I 7 1 = nI T) (x : Int32) (hn : ¬ (rowO I T).1 = 1) : M_X9_make [mR (some 0), mI x] (I, J) = some (some (mI (-1)), (rfz (tkn I T) 3, J)) := by
  rw [E_X9_make, if_pos (show kd (I, J) 0 = 9 from h.k), u_take h I hT hl, if_neg hn]
  simp only [Option.bind_some, asI_I]
  rw [if_pos trivial, if_pos (show kd (_, _) 0 = 9 from h.k), show M_X9_refuse [mR (some 0), mI 3] _ = _ from u_refuse h _ (k := 3) (by decide)]
  rfl
theorem u_make_full {J : MJ} (h : KL J) (I : MI) {T : Nat} (hT : T ≤ 400) (hl : I 7 1 = nI T) (x : Int32) (hy : (rowO I T).1 = 1) (hf : ¬ q_X2_isFull (vw 6 (tkn I T) 1) = 0) : M_X9_make [mR (some 0), mI x] (I, J) = some (some (mI (-1)), (rfz (tkn I T) 3, J)) := by
  rw [E_X9_make, if_pos (show kd (I, J) 0 = 9 from h.k), u_take h I hT hl, if_pos hy]
  simp only [Option.bind_some, asI_I]
  rw [if_neg (show ¬ (1 : Int32) = 0 by decide)]
  simp only [fR_ok 2 h.k, h.r2, fR_ok 0 h.world.k, h.world.r0, Option.bind_some]
  rw [if_pos (show kd (_, _) 1 = 2 from h.nodes.k), t_X2_isFull h.nodes]
  simp only [Option.bind_some, asI_I]
  rw [if_neg hf, if_pos (show kd (_, _) 0 = 9 from h.k), show M_X9_refuse [mR (some 0), mI 3] _ = _ from u_refuse h _ (k := 3) (by decide)]
  rfl
theorem u_make {J : MJ} (h : KL J) (I : MI) {T : Nat} (hT : T ≤ 400) (hl : I 7 1 = nI T) (x : Int32) (hy : (rowO I T).1 = 1) (hf : q_X2_isFull (vw 6 (tkn I T) 1) = 0) {X : MI} {J1 : MJ} (hk : M_X0_keep [mR (some 67), mR (some 16)] (tkn I T, J) = some (none, (X, J1))) (h1 : KL J1) : M_X9_make [mR (some 0), mI x] (I, J) = if 0 ≤ q_X8_makeAt 12 (vw 1 X 16) (vw 2 X 158) (vw 6 X 1) (vw 12 X 17) x then some (some (mI (q_X8_makeAt 12 (vw 1 X 16) (vw 2 X 158) (vw 6 X 1) (vw 12 X 17) x)), (pt (pt X 1 (gU_X8_makeAt 12 (vw 1 X 16) (vw 2 X 158) (vw 6 X 1) (vw 12 X 17) x)) 17 (gV_X8_makeAt 12 (vw 1 X 16) (vw 2 X 158) (vw 6 X 1) (vw 12 X 17) x), J1)) else some (some (mI (-1)), (rfz (pt (pt X 1 (gU_X8_makeAt 12 (vw 1 X 16) (vw 2 X 158) (vw 6 X 1) (vw 12 X 17) x)) 17 (gV_X8_makeAt 12 (vw 1 X 16) (vw 2 X 158) (vw 6 X 1) (vw 12 X 17) x)) 3, J1)) := by
  rw [E_X9_make, if_pos (show kd (I, J) 0 = 9 from h.k), u_take h I hT hl, if_pos hy]
  simp only [Option.bind_some, asI_I]
  rw [if_neg (show ¬ (1 : Int32) = 0 by decide)]
  simp only [fR_ok 2 h.k, h.r2, fR_ok 0 h.world.k, h.world.r0, Option.bind_some]
  rw [if_pos (show kd (_, _) 1 = 2 from h.nodes.k), t_X2_isFull h.nodes]
  simp only [Option.bind_some, asI_I]
  rw [if_pos hf]
  simp only [fR_ok 4 h.k, h.r4, fR_ok 2 h.k, h.r2, Option.bind_some]
  rw [if_pos (show kd (_, _) 67 = 0 from h.his.1), hk]
  simp only [Option.bind_some, asV_n, fR_ok 2 h1.k, h1.r2, fR_ok 6 h1.k, h1.r6, fR_ok 7 h1.k, h1.r7]
  rw [if_pos (show kd (_, _) 16 = 8 from h1.world.k), t_X8_makeAt h1.world h1.fir h1.nodes h1.mem (by decide) (by decide) (by decide) (by decide) (by decide) (by decide)]
  simp only [Option.bind_some, asI_I]
  rw [if_pos (show kd (_, _) 0 = 9 from h1.k), show M_X9_orRefuse [mR (some 0), mI _, mI 3] _ = _ from u_orRefuse h1 _ _ (k := 3) (by decide)]
  split <;> rfl
theorem u_open_no {J : MJ} (h : KL J) (I : MI) {T : Nat} (hT : T ≤ 400) (hl : I 7 1 = nI T) (hn : ¬ (rowO I T).1 = 1) : M_X9_open [mR (some 0)] (I, J) = some (some (mI (-1)), (rfz (tkn I T) 4, J)) := by
  rw [E_X9_open, if_pos (show kd (I, J) 0 = 9 from h.k), u_take h I hT hl, if_neg hn]
  simp only [Option.bind_some, asI_I]
  rw [if_pos trivial, if_pos (show kd (_, _) 0 = 9 from h.k), show M_X9_refuse [mR (some 0), mI 4] _ = _ from u_refuse h _ (k := 4) (by decide)]
  rfl
theorem u_open_full {J : MJ} (h : KL J) (I : MI) {T : Nat} (hT : T ≤ 400) (hl : I 7 1 = nI T) (hy : (rowO I T).1 = 1) (hf : q_X8_freeHandle (vw 1 (tkn I T) 16) (vw 1 (tkn I T) 29) = -1) : M_X9_open [mR (some 0)] (I, J) = some (some (mI (-1)), (rfz (tkn I T) 4, J)) := by
  rw [E_X9_open, if_pos (show kd (I, J) 0 = 9 from h.k), u_take h I hT hl, if_pos hy]
  simp only [Option.bind_some, asI_I]
  rw [if_neg (show ¬ (1 : Int32) = 0 by decide)]
  simp only [fR_ok 2 h.k, h.r2, Option.bind_some]
  rw [if_pos (show kd (_, _) 16 = 8 from h.world.k), t_X8_freeHandle h.world h.han (by decide)]
  simp only [Option.bind_some, asI_I]
  rw [if_pos hf, if_pos (show kd (_, _) 0 = 9 from h.k), show M_X9_refuse [mR (some 0), mI 4] _ = _ from u_refuse h _ (k := 4) (by decide)]
  rfl
theorem u_open {J : MJ} (h : KL J) (I : MI) {T : Nat} (hT : T ≤ 400) (hl : I 7 1 = nI T) (hy : (rowO I T).1 = 1) (hf : ¬ q_X8_freeHandle (vw 1 (tkn I T) 16) (vw 1 (tkn I T) 29) = -1) {X : MI} {J1 : MJ} (hk : M_X0_keep [mR (some 67), mR (some 16)] (tkn I T, J) = some (none, (X, J1))) (h1 : KL J1) : M_X9_open [mR (some 0)] (I, J) = if 0 ≤ q_X8_openAt 12 (vw 1 X 16) (vw 1 X 29) (vw 2 X 158) (vw 6 X 1) (vw 12 X 17) then some (some (mI (q_X8_openAt 12 (vw 1 X 16) (vw 1 X 29) (vw 2 X 158) (vw 6 X 1) (vw 12 X 17))), (pt (pt X 29 (gH_X8_openAt 12 (vw 1 X 16) (vw 1 X 29) (vw 2 X 158) (vw 6 X 1) (vw 12 X 17))) 17 (gV_X8_openAt 12 (vw 1 X 16) (vw 1 X 29) (vw 2 X 158) (vw 6 X 1) (vw 12 X 17)), J1)) else some (some (mI (-1)), (rfz (pt (pt X 29 (gH_X8_openAt 12 (vw 1 X 16) (vw 1 X 29) (vw 2 X 158) (vw 6 X 1) (vw 12 X 17))) 17 (gV_X8_openAt 12 (vw 1 X 16) (vw 1 X 29) (vw 2 X 158) (vw 6 X 1) (vw 12 X 17))) 4, J1)) := by
  rw [E_X9_open, if_pos (show kd (I, J) 0 = 9 from h.k), u_take h I hT hl, if_pos hy]
  simp only [Option.bind_some, asI_I]
  rw [if_neg (show ¬ (1 : Int32) = 0 by decide)]
  simp only [fR_ok 2 h.k, h.r2, Option.bind_some]
  rw [if_pos (show kd (_, _) 16 = 8 from h.world.k), t_X8_freeHandle h.world h.han (by decide)]
  simp only [Option.bind_some, asI_I]
  rw [if_neg hf]
  simp only [fR_ok 4 h.k, h.r4, fR_ok 2 h.k, h.r2, Option.bind_some]
  rw [if_pos (show kd (_, _) 67 = 0 from h.his.1), hk]
  simp only [Option.bind_some, asV_n, fR_ok 2 h1.k, h1.r2, fR_ok 6 h1.k, h1.r6, fR_ok 7 h1.k, h1.r7]
  rw [if_pos (show kd (_, _) 16 = 8 from h1.world.k), t_X8_openAt h1.world h1.han h1.fir h1.nodes h1.mem (by decide) (by decide) (by decide) (by decide) (by decide) (by decide) (by decide) (by decide) (by decide) (by decide)]
  simp only [Option.bind_some, asI_I]
  rw [if_pos (show kd (_, _) 0 = 9 from h1.k), show M_X9_orRefuse [mR (some 0), mI _, mI 4] _ = _ from u_orRefuse h1 _ _ (k := 4) (by decide)]
  split <;> rfl
theorem u_begin_no {J : MJ} (h : KL J) (I : MI) {T : Nat} (hT : T ≤ 400) (hl : I 7 1 = nI T) (hn : ¬ (rowO I T).1 = 1) : M_X9_begin [mR (some 0)] (I, J) = some (some (mI (-1)), (rfz (tkn I T) 5, J)) := by
  rw [E_X9_begin, if_pos (show kd (I, J) 0 = 9 from h.k), u_take h I hT hl, if_neg hn]
  simp only [Option.bind_some, asI_I]
  rw [if_pos trivial, if_pos (show kd (_, _) 0 = 9 from h.k), show M_X9_refuse [mR (some 0), mI 5] _ = _ from u_refuse h _ (k := 5) (by decide)]
  rfl
theorem u_begin_full {J : MJ} (h : KL J) (I : MI) {T : Nat} (hT : T ≤ 400) (hl : I 7 1 = nI T) (hy : (rowO I T).1 = 1) (hf : q_X8_freeWalker (tkn I T) 31 = -1) : M_X9_begin [mR (some 0)] (I, J) = some (some (mI (-1)), (rfz (tkn I T) 5, J)) := by
  rw [E_X9_begin, if_pos (show kd (I, J) 0 = 9 from h.k), u_take h I hT hl, if_pos hy]
  simp only [Option.bind_some, asI_I]
  rw [if_neg (show ¬ (1 : Int32) = 0 by decide)]
  simp only [fR_ok 2 h.k, h.r2, Option.bind_some]
  rw [if_pos (show kd (_, _) 16 = 8 from h.world.k), t_X8_freeWalker h.world h.wks]
  simp only [Option.bind_some, asI_I]
  rw [if_pos hf, if_pos (show kd (_, _) 0 = 9 from h.k), show M_X9_refuse [mR (some 0), mI 5] _ = _ from u_refuse h _ (k := 5) (by decide)]
  rfl
theorem u_begin {J : MJ} (h : KL J) (I : MI) {T : Nat} (hT : T ≤ 400) (hl : I 7 1 = nI T) (hy : (rowO I T).1 = 1) (hf : ¬ q_X8_freeWalker (tkn I T) 31 = -1) {X : MI} {J1 : MJ} (hk : M_X0_keep [mR (some 67), mR (some 16)] (tkn I T, J) = some (none, (X, J1))) (h1 : KL J1) : M_X9_begin [mR (some 0)] (I, J) = some (some (mI (q_X8_freeWalker X 31)), (h_X8_beginWalk X 158 12 31 17, J1)) := by
  rw [E_X9_begin, if_pos (show kd (I, J) 0 = 9 from h.k), u_take h I hT hl, if_pos hy]
  simp only [Option.bind_some, asI_I]
  rw [if_neg (show ¬ (1 : Int32) = 0 by decide)]
  simp only [fR_ok 2 h.k, h.r2, Option.bind_some]
  rw [if_pos (show kd (_, _) 16 = 8 from h.world.k), t_X8_freeWalker h.world h.wks]
  simp only [Option.bind_some, asI_I]
  rw [if_neg hf]
  simp only [fR_ok 4 h.k, h.r4, fR_ok 2 h.k, h.r2, Option.bind_some]
  rw [if_pos (show kd (_, _) 67 = 0 from h.his.1), hk]
  simp only [Option.bind_some, asV_n, fR_ok 2 h1.k, h1.r2, fR_ok 6 h1.k, h1.r6, fR_ok 7 h1.k, h1.r7]
  rw [if_pos (show kd (_, _) 16 = 8 from h1.world.k), t_X8_beginWalk h1.world h1.wks h1.mem h1.fir (by decide) (by decide) (by decide)]
  rfl
theorem u_mount_no {J : MJ} (h : KL J) (I : MI) {T : Nat} (hT : T ≤ 400) (hl : I 7 1 = nI T) (x : Int32) (hn : ¬ (rowO I T).1 = 1) : M_X9_mount [mR (some 0), mI x] (I, J) = some (some (mI (-1)), (rfz (tkn I T) 3, J)) := by
  rw [E_X9_mount, if_pos (show kd (I, J) 0 = 9 from h.k), u_take h I hT hl, if_neg hn]
  simp only [Option.bind_some, asI_I]
  rw [if_pos trivial, if_pos (show kd (_, _) 0 = 9 from h.k), show M_X9_refuse [mR (some 0), mI 3] _ = _ from u_refuse h _ (k := 3) (by decide)]
  rfl
theorem u_mount_vol {J : MJ} (h : KL J) (I : MI) {T : Nat} (hT : T ≤ 400) (hl : I 7 1 = nI T) (x : Int32) (hy : (rowO I T).1 = 1) (hv : q_X2_hasVolume (vw 6 (tkn I T) 1) x = 0) : M_X9_mount [mR (some 0), mI x] (I, J) = some (some (mI (-1)), (rfz (tkn I T) 3, J)) := by
  rw [E_X9_mount, if_pos (show kd (I, J) 0 = 9 from h.k), u_take h I hT hl, if_pos hy]
  simp only [Option.bind_some, asI_I]
  rw [if_neg (show ¬ (1 : Int32) = 0 by decide)]
  simp only [fR_ok 2 h.k, h.r2, fR_ok 0 h.world.k, h.world.r0, Option.bind_some]
  rw [if_pos (show kd (_, _) 1 = 2 from h.nodes.k), t_X2_hasVolume h.nodes]
  simp only [Option.bind_some, asI_I]
  rw [if_pos hv, if_pos (show kd (_, _) 0 = 9 from h.k), show M_X9_refuse [mR (some 0), mI 3] _ = _ from u_refuse h _ (k := 3) (by decide)]
  rfl
theorem u_mount_is {J : MJ} (h : KL J) (I : MI) {T : Nat} (hT : T ≤ 400) (hl : I 7 1 = nI T) (x : Int32) (hy : (rowO I T).1 = 1) (hv : ¬ q_X2_hasVolume (vw 6 (tkn I T) 1) x = 0) (hm : ¬ q_X1_isMounted (vw 12 (tkn I T) 17) x = 0) : M_X9_mount [mR (some 0), mI x] (I, J) = some (some (mI (-1)), (rfz (tkn I T) 3, J)) := by
  rw [E_X9_mount, if_pos (show kd (I, J) 0 = 9 from h.k), u_take h I hT hl, if_pos hy]
  simp only [Option.bind_some, asI_I]
  rw [if_neg (show ¬ (1 : Int32) = 0 by decide)]
  simp only [fR_ok 2 h.k, h.r2, fR_ok 0 h.world.k, h.world.r0, Option.bind_some]
  rw [if_pos (show kd (_, _) 1 = 2 from h.nodes.k), t_X2_hasVolume h.nodes]
  simp only [Option.bind_some, asI_I]
  rw [if_neg hv]
  simp only [fR_ok 2 h.k, h.r2, fR_ok 1 h.world.k, h.world.r1, Option.bind_some]
  rw [if_pos (show kd (_, _) 17 = 1 from h.mem.k), t_X1_isMounted h.mem]
  simp only [Option.bind_some, asI_I]
  rw [if_neg hm, if_pos (show kd (_, _) 0 = 9 from h.k), show M_X9_refuse [mR (some 0), mI 3] _ = _ from u_refuse h _ (k := 3) (by decide)]
  rfl
theorem u_mount {J : MJ} (h : KL J) (I : MI) {T : Nat} (hT : T ≤ 400) (hl : I 7 1 = nI T) (x : Int32) (hy : (rowO I T).1 = 1) (hv : ¬ q_X2_hasVolume (vw 6 (tkn I T) 1) x = 0) (hm : q_X1_isMounted (vw 12 (tkn I T) 17) x = 0) {X : MI} {J1 : MJ} (hk : M_X0_keep [mR (some 67), mR (some 16)] (tkn I T, J) = some (none, (X, J1))) (h1 : KL J1) : M_X9_mount [mR (some 0), mI x] (I, J) = if 0 ≤ q_X8_mountAt 12 (vw 1 X 16) (vw 2 X 158) (vw 6 X 1) (vw 12 X 17) x then some (some (mI (q_X8_mountAt 12 (vw 1 X 16) (vw 2 X 158) (vw 6 X 1) (vw 12 X 17) x)), (pt X 17 (gV_X8_mountAt 12 (vw 1 X 16) (vw 2 X 158) (vw 6 X 1) (vw 12 X 17) x), J1)) else some (some (mI (-1)), (rfz (pt X 17 (gV_X8_mountAt 12 (vw 1 X 16) (vw 2 X 158) (vw 6 X 1) (vw 12 X 17) x)) 3, J1)) := by
  rw [E_X9_mount, if_pos (show kd (I, J) 0 = 9 from h.k), u_take h I hT hl, if_pos hy]
  simp only [Option.bind_some, asI_I]
  rw [if_neg (show ¬ (1 : Int32) = 0 by decide)]
  simp only [fR_ok 2 h.k, h.r2, fR_ok 0 h.world.k, h.world.r0, Option.bind_some]
  rw [if_pos (show kd (_, _) 1 = 2 from h.nodes.k), t_X2_hasVolume h.nodes]
  simp only [Option.bind_some, asI_I]
  rw [if_neg hv]
  simp only [fR_ok 2 h.k, h.r2, fR_ok 1 h.world.k, h.world.r1, Option.bind_some]
  rw [if_pos (show kd (_, _) 17 = 1 from h.mem.k), t_X1_isMounted h.mem]
  simp only [Option.bind_some, asI_I]
  rw [if_pos hm]
  simp only [fR_ok 4 h.k, h.r4, fR_ok 2 h.k, h.r2, Option.bind_some]
  rw [if_pos (show kd (_, _) 67 = 0 from h.his.1), hk]
  simp only [Option.bind_some, asV_n, fR_ok 2 h1.k, h1.r2, fR_ok 6 h1.k, h1.r6, fR_ok 7 h1.k, h1.r7]
  rw [if_pos (show kd (_, _) 16 = 8 from h1.world.k), t_X8_mountAt h1.world h1.fir h1.nodes h1.mem (by decide) (by decide) (by decide) (by decide) (by decide) (by decide)]
  simp only [Option.bind_some, asI_I]
  rw [if_pos (show kd (_, _) 0 = 9 from h1.k), show M_X9_orRefuse [mR (some 0), mI _, mI 3] _ = _ from u_orRefuse h1 _ _ (k := 3) (by decide)]
  split <;> rfl

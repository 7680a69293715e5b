/-! Public calls: trees, traces, undo, chance. -/
theorem u_trace_no {J : MJ} (h : KL J) (I : MI) {T : Nat} (hT : T ≤ 400) (hl : I 7 1 = nI T) (hn : (rowO I T).1 = -1) : M_X9_trace [mR (some 0)] (I, J) = some (some (mI (-1)), (rfz (tkn I T) 5, J)) := by
  rw [E_X9_trace, if_pos (show kd (I, J) 0 = 9 from h.k), show M_X9_takeRow [mR (some 0)] (I, J) = some (some (mI (rowO I T).1), (tkn I T, J)) from u_takeRow h I hT hl, hn]
  simp only [Option.bind_some, asI_I]
  rw [if_pos trivial, if_pos (show kd (_, _) 0 = 9 from h.k), show M_X9_refuse [mR (some 0), mI 5] _ = _ from u_refuse h _ (k := 5) (by decide)]
  rfl
theorem u_trace {J : MJ} (h : KL J) (I : MI) {T c : Nat} (hT : T ≤ 400) (hl : I 7 1 = nI T) (hn : (rowO I T).1 = nI c) (hc : c ≤ 12) : M_X9_trace [mR (some 0)] (I, J) = some (some (mI (nI c)), (bcm (tkn I T) 69 158 c, J)) := by
  rw [E_X9_trace, if_pos (show kd (I, J) 0 = 9 from h.k), show M_X9_takeRow [mR (some 0)] (I, J) = some (some (mI (rowO I T).1), (tkn I T, J)) from u_takeRow h I hT hl, hn]
  simp only [Option.bind_some, asI_I]
  rw [if_neg (fun q => by
    have := congrArg Int32.toInt q
    rw [nI_toInt (by omega)] at this
    have e0 : (-1 : Int32).toInt = -1 := rfl
    omega)]
  simp only [fR_ok 5 h.k, h.r5, fR_ok 8 h.k, h.r8, Option.bind_some]
  rw [if_pos (show kd (_, _) 69 = 6 from h.trc.k), show M_X6_become [mR (some 69), mR (some 162), mI (nI c)] (tkn I T, J) = _ from t_X6_become h.trc h.tol (by decide) (tkn I T) hc]
  rfl
theorem u_loads_no {J : MJ} (h : KL J) (I : MI) (x : Int32) (hn : x < 4 ∨ 40 < x ∨ I 69 1 ≤ 0) : M_X9_loads [mR (some 0), mI x] (I, J) = some (some (mI (-1)), (I, J)) := by
  rw [E_X9_loads, u_isRoom, Option.bind_some]
  show (if (if x < 4 then (0 : Int32) else if 40 < x then 0 else 1) = 0 then _ else _) = _
  by_cases b : x < 4
  · rw [if_pos b, if_pos rfl]
  · rw [if_neg b]
    by_cases c : 40 < x
    · rw [if_pos c, if_pos rfl]
    · rw [if_neg c, if_neg (show ¬ (1 : Int32) = 0 by decide)]
      simp only [fR_ok 5 h.k, h.r5, Option.bind_some, fI_ok 1 h.trc.k]
      rw [if_pos (hn.elim (fun q => absurd q b) (fun q => q.elim (fun q => absurd q c) id))]
theorem u_loads {J : MJ} (h : KL J) (I : MI) {r L : Nat} (hr : r < 37) (hL : I 69 1 = nI L) (hl : L ≤ 12) (h0 : L ≠ 0) : M_X9_loads [mR (some 0), mI (nI (4 + r))] (I, J) = some (some (mI (rI (prep I 69 17) 69 1 r L 133 r)), (rI (prep I 69 17) 69 1 r L, J)) := by
  rw [E_X9_loads, u_isRoom, if_neg (by rw [i32_lt, nI_toInt (by omega)]; exact fun q => absurd q (by show ¬ (((4 + r : Nat) : Int) < 4); omega)), if_neg (by rw [i32_lt, nI_toInt (by omega)]; exact fun q => absurd q (by show ¬ ((40 : Int) < ((4 + r : Nat) : Int)); omega))]
  simp only [Option.bind_some, asI_I]
  rw [if_neg (show ¬ (1 : Int32) = 0 by decide)]
  simp only [fR_ok 5 h.k, h.r5, Option.bind_some, fI_ok 1 h.trc.k, hL]
  rw [if_neg (by rw [i32_le, nI_toInt (by omega)]; exact fun q => h0 (by have : (0 : Int32).toInt = 0 := rfl; omega))]
  simp only [fR_ok 2 h.k, h.r2, fR_ok 1 h.world.k, h.world.r1, Option.bind_some]
  rw [if_pos (show kd (I, J) 69 = 6 from h.trc.k), t_X6_loadsBy h.trc h.mem (by decide) I hL hl hr]
  rfl
/-- the heap when all rooms have been run -/
def allI (I : MI) (L : Nat) : MI := (rall (prep I 69 17) 69 1 L).2
theorem u_runAll {J : MJ} (h : KL J) (I : MI) {L : Nat} (hL : I 69 1 = nI L) (hl : L ≤ 12) : M_X6_runAll [mR (some 69), mR (some 17)] (I, J) = if L = 0 then some (some (mI 0), (I, J)) else some (some (mI 1), (allI I L, J)) := t_X6_runAll h.trc h.mem (by decide) I hL hl
theorem allI_out (I : MI) (L x : Nat) (hx : x ≠ 133) (h1 : x < 70 ∨ 133 ≤ x ∨ (94 ≤ x ∧ x < 96)) : allI I L x = I x := by
  have out : ∀ (f k : Nat) (s : Int32 × MI), k + f = 37 → (itr (fun r s => astep 69 1 L r s) k f s).2 x = s.2 x := by
    intro f
    induction f with
    | zero => intro k s _; rfl
    | succ f ih =>
      intro k s hk
      show (itr (fun r s => astep 69 1 L r s) (k + 1) f (astep 69 1 L k s)).2 x = _
      rw [ih _ _ (by omega), astep_out _ _ _ _ _ _ (by omega) (by omega) (by omega)]
  unfold allI rall
  rw [out 37 0 _ rfl]
  show prep I 69 17 x = I x
  unfold prep
  rw [pt_out (x := x) (by omega)]
theorem u_least {J : MJ} (h : KL J) (I : MI) (x : Int32) {L : Nat} (hL : I 69 1 = nI L) (hl : L ≤ 12) : M_X9_least [mR (some 0), mI x] (I, J) = if L = 0 then some (some (mI (-1)), (I, J)) else some (some (mI (q_X6_leastRoom (allI I L) 69 x)), (allI I L, J)) := by
  rw [E_X9_least]
  simp only [fR_ok 5 h.k, h.r5, fR_ok 2 h.k, h.r2, fR_ok 1 h.world.k, h.world.r1, Option.bind_some]
  rw [if_pos (show kd (I, J) 69 = 6 from h.trc.k), u_runAll h I hL hl]
  by_cases a : L = 0
  · simp only [if_pos a, Option.bind_some, asI_I]
    rfl
  · simp only [if_neg a, Option.bind_some, asI_I]
    rw [if_neg (show ¬ (1 : Int32) = 0 by decide)]
    simp only [fR_ok 5 h.k, h.r5, Option.bind_some]
    rw [if_pos (show kd (_, _) 69 = 6 from h.trc.k), t_X6_leastRoom h.trc]
    rfl
theorem u_fitsQ {J : MJ} (h : KL J) (I : MI) (x : Int32) {L : Nat} (hL : I 69 1 = nI L) (hl : L ≤ 12) : M_X9_fits [mR (some 0), mI x] (I, J) = if L = 0 then some (some (mI (-1)), (I, J)) else some (some (mI (lp_fitting (allI I L) 69 x 37 0 0)), (allI I L, J)) := by
  rw [E_X9_fits]
  simp only [fR_ok 5 h.k, h.r5, fR_ok 2 h.k, h.r2, fR_ok 1 h.world.k, h.world.r1, Option.bind_some]
  rw [if_pos (show kd (I, J) 69 = 6 from h.trc.k), u_runAll h I hL hl]
  by_cases a : L = 0
  · simp only [if_pos a, Option.bind_some, asI_I]
    rfl
  · simp only [if_neg a, Option.bind_some, asI_I]
    rw [if_neg (show ¬ (1 : Int32) = 0 by decide)]
    simp only [fR_ok 5 h.k, h.r5, Option.bind_some]
    rw [if_pos (show kd (_, _) 69 = 6 from h.trc.k), t_X6_fitting h.trc]
    rfl
theorem u_tells {J : MJ} (h : KL J) (I : MI) (x : Int32) {L : Nat} (hL : I 69 1 = nI L) (hl : L ≤ 12) : M_X9_tells [mR (some 0), mI x] (I, J) = if x < 0 ∨ 1 < x ∨ L = 0 then some (some (mI (-1)), (I, J)) else some (some (mI (q_X6_telling (allI I L) 69 L (if x = 1 then 1 else 0))), (allI I L, J)) := by
  rw [E_X9_tells]
  by_cases a : x < 0
  · rw [if_pos a, if_pos (Or.inl a)]
  · rw [if_neg a]
    by_cases b : 1 < x
    · rw [if_pos b, if_pos (Or.inr (Or.inl b))]
    · rw [if_neg b]
      simp only [fR_ok 5 h.k, h.r5, fR_ok 2 h.k, h.r2, fR_ok 1 h.world.k, h.world.r1, Option.bind_some]
      rw [if_pos (show kd (I, J) 69 = 6 from h.trc.k), u_runAll h I hL hl]
      by_cases c : L = 0
      · rw [if_pos c, if_pos (Or.inr (Or.inr c))]
        rfl
      · rw [if_neg c, if_neg (fun q => q.elim a (fun q => q.elim b c))]
        simp only [Option.bind_some, asI_I]
        have hA : allI I L 69 1 = nI L := by rw [allI_out I L 69 (by decide) (Or.inl (by decide))]; exact hL
        rw [if_neg (show ¬ (1 : Int32) = 0 by decide)]
        simp only [fR_ok 5 h.k, h.r5, Option.bind_some]
        by_cases d : x = 1
        · simp only [if_pos d]
          rw [if_pos (show kd (_, _) 69 = 6 from h.trc.k), t_X6_telling h.trc _ hA hl]
          rfl
        · simp only [if_neg d]
          rw [if_pos (show kd (_, _) 69 = 6 from h.trc.k), t_X6_telling h.trc _ hA hl]
          rfl
theorem u_undo_no {J : MJ} (h : KL J) (I : MI) {p : Nat} (hp : I 67 1 = nI p) (hq : I 67 2 = nI 0) (h1 : p < 20) : M_X9_undo [mR (some 0)] (I, J) = some (some (mI 0), (rfz I 4, J)) := by
  rw [E_X9_undo]
  simp only [fR_ok 4 h.k, h.r4, fR_ok 2 h.k, h.r2, Option.bind_some]
  rw [if_pos (show kd (I, J) 67 = 0 from h.his.1), t_bringBack0 (q := 0) h.his I hp hq h1]
  simp only [Option.bind_some, asI_I]
  rw [if_pos trivial, if_pos (show kd (I, J) 0 = 9 from h.k), show M_X9_refuseFlatly [mR (some 0), mI 4] _ = _ from u_refuseFlatly h I (k := 4) (by decide)]
  simp [asI]
theorem u_undo {J : MJ} (h : KL J) (I : MI) {p q a : Nat} (hp : I 67 1 = nI p) (hq : I 67 2 = nI (q + 1)) (h1 : p < 20) (h2 : q < 20) (hK : KwL J a) (hr : jR J 68 (bkp p) = some (a + 6)) (ha : 188 ≤ a) : M_X9_undo [mR (some 0)] (I, J) = some (some (mI 1), (up2 (up2 (h_X8_copyFrom I a (a + 7) (a + 19) (a + 21) 1 17 29 31) 67 1 (nI (bkp p))) 67 2 (nI q), J)) := by
  rw [E_X9_undo]
  simp only [fR_ok 4 h.k, h.r4, fR_ok 2 h.k, h.r2, Option.bind_some]
  rw [if_pos (show kd (I, J) 67 = 0 from h.his.1), t_bringBack h.his h.world h.han h.wks h.nodes h.mem hK hr (by omega) (by omega) (by omega) (by omega) (by omega) (by omega) I hp hq h1 h2]
  simp [asI]
/-- one look by chance; the draws lie in J -/
def chI (I : MI) (n : Int32) : MI := pt (pt I 183 (gP_X8_routeTo 60 (vw 1 I 16) (vw 2 I 183) (vw 6 I 1) (vw 12 I 17) n)) 17 (gV_X1_walk 60 (gP_X8_routeTo 60 (vw 1 I 16) (vw 2 I 183) (vw 6 I 1) (vw 12 I 17) n) (vw 6 I 1) (vw 12 I 17) (gP_X8_routeTo 60 (vw 1 I 16) (vw 2 I 183) (vw 6 I 1) (vw 12 I 17) n 0 1))
def chN (I : MI) (J : MJ) (c : Int32) : Int32 := q_X8_mountedNode (vw 1 I 16) (vw 6 I 1) (vw 12 I 17) (drQ (drw (J.1 0 15)) c)
def chS (c : Int32) : Nat → MI × MJ → MI × MJ
  | 0, s => s
  | f + 1, s => chS c f (chI s.1 (chN s.1 s.2 c), drJ s.2)
theorem KL.dr {J : MJ} (h : KL J) : KL (drJ J) := h
theorem lr_chance {J0 : MJ} (x1 x2 c : Int32) {n : Nat} (hx : x1 = nI n) (hn : n ≤ 40) (hc : 0 < c → ¬ Int32.toInt64 c = 0) : ∀ (f k : Nat) (I : MI) (J : MJ), KL J → k + f = n → Ev T_X9_chance 57 [some (mR (some 0)), some (mI x1), some (mI x2), some (mI c), some (mI (nI k))] [] (I, J) = some (some (mI ((chS c f (I, J)).1 17 13 - x2)), chS c f (I, J)) := by
  intro f
  induction f with
  | zero =>
    intro k I J h hk
    have hk : k = n := by omega
    subst hk
    rw [E_X9_chance_57, hx, if_pos (Int32.le_refl _)]
    simp only [fR_ok 2 h.k, h.r2, fR_ok 1 h.world.k, h.world.r1, Option.bind_some, fI_ok 13 h.mem.k]
    rfl
  | succ f ih =>
    intro k I J h hk
    have h' : KL (drJ J) := h
    rw [E_X9_chance_57, hx, if_neg (nI_ge (show k < n by omega) (by omega))]
    simp only [fR_ok 2 h.k, h.r2, Option.bind_some]
    rw [if_pos (show kd (I, J) 0 = 9 from h.k), u_drawOf h I c hc]
    simp only [Option.bind_some, asI_I]
    rw [if_pos (show kd (I, drJ J) 16 = 8 from h'.world.k), t_X8_mountedNode h'.world h'.nodes h'.mem (by decide) (by decide) (by decide)]
    simp only [Option.bind_some, asI_I, fR_ok 9 h'.k, h'.r9]
    rw [if_pos (show kd (I, drJ J) 16 = 8 from h'.world.k), t_X8_routeTo h'.world h'.long h'.nodes h'.mem (by decide) (by decide) (by decide) (by decide) (by decide) (by decide)]
    simp only [Option.bind_some, asV_n, fR_ok 2 h'.k, h'.r2, fR_ok 1 h'.world.k, h'.world.r1, fR_ok 9 h'.k, h'.r9, fI_ok 1 h'.long.k]
    rw [if_pos (show kd (_, drJ J) 17 = 1 from h'.mem.k), t_X1_walk h'.long h'.nodes h'.mem (by decide) (by decide) (by decide), vw_pt, vw_out I _ (by decide), vw_out I _ (by decide), p2_0]
    simp only [Option.bind_some, asI_I, nI_1]
    rw [← hx]
    exact ih (k + 1) _ _ h' (by omega)
theorem u_chance_no {J : MJ} (h : KL J) (I : MI) (x : Int32) (hn : I 1 6 ≤ 0 ∨ x < 1 ∨ ¬ x ≤ 40) : M_X9_chance [mR (some 0), mI x] (I, J) = some (some (mI (-1)), (rfz I 2, J)) := by
  have r := show M_X9_refuse [mR (some 0), mI 2] (I, J) = _ from u_refuse h I (k := 2) (by decide)
  have k9 : kd (I, J) 0 = 9 := h.k
  rw [E_X9_chance, if_pos k9, u_hasTrees h I]
  simp only [Option.bind_some, asI_I, if_pos k9, r]
  by_cases a : I 1 6 ≤ 0
  · rw [if_pos a, if_pos rfl]
  · rw [if_neg a, if_neg (show ¬ (1 : Int32) = 0 by decide)]
    by_cases b : x < 1
    · rw [if_pos b]
    · rw [if_neg b, if_neg (hn.elim (fun q => absurd q a) (fun q => q.elim (fun q => absurd q b) id))]
theorem u_chance {J : MJ} (h : KL J) (I : MI) {n : Nat} (a : ¬ I 1 6 ≤ 0) (hn : 1 ≤ n) (hm : n ≤ 40) {X : MI} {J1 : MJ} (hk : M_X0_keep [mR (some 67), mR (some 16)] (I, J) = some (none, (X, J1))) (h1 : KL J1) (hc : 0 < q_X8_mountedNodes (vw 1 X 16) (vw 6 X 1) (vw 12 X 17) → ¬ Int32.toInt64 (q_X8_mountedNodes (vw 1 X 16) (vw 6 X 1) (vw 12 X 17)) = 0) : M_X9_chance [mR (some 0), mI (nI n)] (I, J) = some (some (mI ((chS (q_X8_mountedNodes (vw 1 X 16) (vw 6 X 1) (vw 12 X 17)) n (X, J1)).1 17 13 - X 17 13)), chS (q_X8_mountedNodes (vw 1 X 16) (vw 6 X 1) (vw 12 X 17)) n (X, J1)) := by
  rw [E_X9_chance, if_pos (show kd (I, J) 0 = 9 from h.k), u_hasTrees h I, if_neg a]
  simp only [Option.bind_some, asI_I]
  rw [if_neg (show ¬ (1 : Int32) = 0 by decide), if_neg (by rw [i32_lt, nI_toInt (by omega)]; exact fun q => absurd q (by show ¬ ((n : Int) < 1); omega)), if_pos (by rw [i32_le, nI_toInt (by omega)]; show (n : Int) ≤ 40; omega)]
  simp only [fR_ok 4 h.k, h.r4, fR_ok 2 h.k, h.r2, Option.bind_some]
  rw [if_pos (show kd (_, _) 67 = 0 from h.his.1), hk]
  simp only [Option.bind_some, asV_n, fR_ok 2 h1.k, h1.r2, fR_ok 1 h1.world.k, h1.world.r1, fI_ok 13 h1.mem.k]
  rw [if_pos (show kd (_, _) 16 = 8 from h1.world.k), t_X8_mountedNodes h1.world h1.nodes h1.mem (by decide) (by decide) (by decide)]
  simp only [Option.bind_some, asI_I]
  exact lr_chance (J0 := J1) (nI n) _ _ rfl hm hc n 0 X J1 h1 (by omega)
/-- the heap when trees have been read -/
def trI (I : MI) : MI := clr (pt (pt I 9 (gE_X3_readTrees (vw 1 I 9) (vw 2 I 7) (vw 6 I 10))) 10 (gU_X3_readTrees (vw 1 I 9) (vw 2 I 7) (vw 6 I 10)))
def trQ (I : MI) : Int32 := q_X3_readTrees (vw 1 I 9) (vw 2 I 7) (vw 6 I 10)
def trW (X : MI) : MI := up2 (up2 (up2 (up2 (h_X8_startWith X 10 1 17 29 31) 67 2 0) 69 1 0) 69 2 (-1)) 0 14 0
theorem u_trees {J : MJ} (h : KL J) (I : MI) : M_X9_trees [mR (some 0)] (I, J) = if trQ I = 0 then some (some (mI (-1)), (rfz (trI I) 1, J)) else some (some (mI (trW (trI I) 1 6)), (trW (trI I), J)) := by
  rw [E_X9_trees]
  simp only [fR_ok 1 h.k, h.r1, fR_ok 0 h.k, h.r0, Option.bind_some]
  rw [if_pos (show kd (I, J) 9 = 3 from h.reader.k), t_X3_readTrees h.reader h.tape h.draft (by decide) (by decide) (by decide) I]
  simp only [Option.bind_some, asI_I, fR_ok 0 h.k, h.r0]
  rw [if_pos (show kd (_, _) 7 = 5 from h.tape.k), show M_X5_clear [mR (some 7)] (pt (pt I 9 (gE_X3_readTrees (vw 1 I 9) (vw 2 I 7) (vw 6 I 10))) 10 (gU_X3_readTrees (vw 1 I 9) (vw 2 I 7) (vw 6 I 10)), J) = some (none, (trI I, J)) from t_X5_clear h.tape _, show q_X3_readTrees (vw 1 I 9) (vw 2 I 7) (vw 6 I 10) = trQ I from rfl]
  simp only [Option.bind_some, asV_n]
  generalize trI I = X
  by_cases a : trQ I = 0
  · rw [if_pos a, if_pos a, if_pos (show kd (_, _) 0 = 9 from h.k), show M_X9_refuse [mR (some 0), mI 1] _ = _ from u_refuse h _ (k := 1) (by decide)]
    rfl
  · rw [if_neg a, if_neg a]
    simp only [fR_ok 2 h.k, h.r2, fR_ok 1 h.k, h.r1, fR_ok 0 h.reader.k, h.reader.r0, Option.bind_some]
    rw [if_pos (show kd (_, _) 16 = 8 from h.world.k), t_X8_startWith h.world h.han h.wks h.draft h.nodes h.mem (by decide) (by decide)]
    simp only [Option.bind_some, asV_n, fR_ok 4 h.k, h.r4]
    rw [if_pos (show kd (_, _) 67 = 0 from h.his.1), E_X0_forget, wI_ok 2 _ h.his.1]
    simp only [Option.bind_some, asV_n, fR_ok 5 h.k, h.r5]
    rw [if_pos (show kd (_, _) 69 = 6 from h.trc.k), t_X6_forget h.trc]
    simp only [Option.bind_some, asV_n, wZ_ok 14 0 h.k (Or.inl rfl), fR_ok 2 h.k, h.r2, fR_ok 0 h.world.k, h.world.r0, fI_ok 6 h.nodes.k]
    rfl

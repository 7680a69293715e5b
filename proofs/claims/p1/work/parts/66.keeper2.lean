/-! The keeper's helpers, on. -/
def clr (I : MI) : MI := pt I 7 (gQ_X5_clear (vw 2 I 7))
def rowO (I : MI) (T : Nat) : Int32 × MI := if I 1 6 ≤ 0 then (-1, I) else lpRow T (vw 2 I 7) (T + 1) 0 0 0 I
theorem u_takeRow {J : MJ} (h : KL J) (I : MI) {T : Nat} (hT : T ≤ 400) (hl : I 7 1 = nI T) : M_X9_takeRow [mR (some 0)] (I, J) = some (some (mI (rowO I T).1), (clr (rowO I T).2, J)) := by
  rw [E_X9_takeRow, if_pos (show kd (I, J) 0 = 9 from h.k), u_hasTrees h I]
  simp only [Option.bind_some, asI_I]
  unfold rowO
  by_cases a : I 1 6 ≤ 0
  · simp only [if_pos a, fR_ok 0 h.k, h.r0, Option.bind_some]
    rw [if_pos trivial, if_pos (show kd (I, J) 7 = 5 from h.tape.k), t_X5_clear h.tape I]
    rfl
  · simp only [if_neg a]
    rw [if_neg (show ¬ (1 : Int32) = 0 by decide)]
    simp only [fR_ok 0 h.k, h.r0, fR_ok 8 h.k, h.r8, Option.bind_some]
    have e : M_X9_readRow [mR (some 7), mR (some 162)] (I, J) = some (some (mI (lpRow T (vw 2 I 7) (T + 1) 0 0 0 I).1), ((lpRow T (vw 2 I 7) (T + 1) 0 0 0 I).2, J)) := by
      rw [E_X9_readRow]
      exact lr_readRow h hT (vw 2 I 7) hl (T + 1) 0 0 0 I rfl (by omega) (by omega)
    rw [e]
    simp only [Option.bind_some, asI_I, fR_ok 0 h.k, h.r0]
    rw [if_pos (show kd ((lpRow T (vw 2 I 7) (T + 1) 0 0 0 I).2, J) 7 = 5 from h.tape.k), t_X5_clear h.tape]
    rfl
theorem u_takePaths {J : MJ} (h : KL J) (I : MI) {T : Nat} (hT : T ≤ 400) (hl : I 7 1 = nI T) (x : Int32) : M_X9_takePaths [mR (some 0), mI x] (I, J) = some (some (mI (if (rowO I T).1 = x then 1 else 0)), (clr (rowO I T).2, J)) := by
  rw [E_X9_takePaths, if_pos (show kd (I, J) 0 = 9 from h.k), u_takeRow h I hT hl]
  simp only [Option.bind_some, asI_I]
  by_cases a : (rowO I T).1 = x
  · simp [a]
  · simp [a]
/-- a walk in a copy -/
def tryV (I : MI) : MemV := gV_X1_walk 12 (vw 2 I 158) (vw 6 I 1) (gV_X1_copyFrom (vw 12 I 17) (vw 12 I 55)) (I 158 1)
def tryQ (I : MI) : Int32 := q_X1_walk 12 (vw 2 I 158) (vw 6 I 1) (gV_X1_copyFrom (vw 12 I 17) (vw 12 I 55)) (I 158 1)
theorem u_tryOut {J : MJ} (h : KL J) (I : MI) : M_X9_tryOut [mR (some 0), mR (some 158)] (I, J) = some (some (mI (tryQ I)), (pt I 55 (tryV I), J)) := by
  rw [E_X9_tryOut]
  simp only [fR_ok 3 h.k, h.r3, fR_ok 2 h.k, h.r2, Option.bind_some, fR_ok 1 h.world.k, h.world.r1]
  rw [if_pos (show kd (I, J) 55 = 1 from h.trial.k), t_X1_copyFrom h.mem h.trial (by decide) I]
  simp only [Option.bind_some, asV_n, fR_ok 3 h.k, h.r3, fI_ok 1 h.fir.k]
  rw [if_pos (show kd (pt I 55 (gV_X1_copyFrom (vw 12 I 17) (vw 12 I 55)), J) 55 = 1 from h.trial.k), t_X1_walk h.fir h.nodes h.trial (by decide) (by decide) (by decide), vw_pt, vw_out I _ (by decide), vw_out I _ (by decide), pt_pt, pt_out (x := 158) (by decide)]
  rfl
def tlo (I : MI) (w : Nat) (x : Int32) : MI := up2 (up2 (up2 (up2 (up2 I 0 14 1) 187 0 (if 0 ≤ x then q_X1_nodeOf (vw 12 I 17) x else x)) 187 1 (if 0 ≤ x then x else -1)) 187 2 (I w 7)) 187 3 (bz (I w 6))
theorem u_tellOutcome {J : MJ} (h : KL J) (I : MI) {w : Nat} (hw : (jS J w).1 = 7) (h0 : w ≠ 0) (h1 : w ≠ 187) (x : Int32) : M_X9_tellOutcome [mR (some 0), mR (some w), mI x] (I, J) = some (none, (tlo I w x, J)) := by
  have eI : ∀ {v0 v1 v2 v3 : Int32} {k : Nat}, up2 (up2 (up2 (up2 I 0 14 v0) 187 0 v1) 187 1 v2) 187 2 v3 w k = I w k := by
    intro v0 v1 v2 v3 k
    show (if w = 187 ∧ _ then _ else if w = 187 ∧ _ then _ else if w = 187 ∧ _ then _ else if w = 0 ∧ _ then _ else _) = _
    rw [if_neg (fun q => h1 q.1), if_neg (fun q => h1 q.1), if_neg (fun q => h1 q.1), if_neg (fun q => h0 q.1)]
  have eJ : ∀ {v0 v1 v2 : Int32} {k : Nat}, up2 (up2 (up2 I 0 14 v0) 187 0 v1) 187 1 v2 w k = I w k := by
    intro v0 v1 v2 k
    show (if w = 187 ∧ _ then _ else if w = 187 ∧ _ then _ else if w = 0 ∧ _ then _ else _) = _
    rw [if_neg (fun q => h1 q.1), if_neg (fun q => h1 q.1), if_neg (fun q => h0 q.1)]
  have eV : vw 12 (up2 I 0 14 1) 17 = vw 12 I 17 := by
    funext k j
    show (if 17 + k.val = 0 ∧ _ then _ else _) = _
    rw [if_neg (by omega)]
    rfl
  have e0 : Int32.toNatClampNeg 0 = 0 := rfl
  have e1 : Int32.toNatClampNeg 1 = 1 := rfl
  have e2 : Int32.toNatClampNeg 2 = 2 := rfl
  have e3 : Int32.toNatClampNeg 3 = 3 := rfl
  rw [E_X9_tellOutcome, wZ_ok 14 1 h.k (by decide), Option.bind_some, fR_ok 13 h.k, Option.bind_some]
  unfold tlo
  by_cases a : (0 : Int32) ≤ x
  · simp only [if_pos a, fR_ok 2 h.k, h.r2, h.r13, Option.bind_some, fR_ok 1 h.world.k, h.world.r1]
    rw [if_pos (show kd (up2 I 0 14 1, J) 17 = 1 from h.mem.k), t_X1_nodeOf h.mem, eV]
    simp only [Option.bind_some, asI_I, st_ok _ _ h.out (show inb 0 4 by decide), st_ok _ _ h.out (show inb 1 4 by decide), st_ok _ _ h.out (show inb 2 4 by decide), st_ok _ _ h.out (show inb 3 4 by decide), fR_ok 13 h.k, h.r13, fI_ok 7 hw, fZ_ok 6 hw, e0, e1, e2, e3, eI, eJ]
    by_cases b : bz (I w 6) = 0
    · simp [b]
    · have b1 : bz (I w 6) = 1 := (bz_or _).resolve_left b
      simp [b1]
  · simp only [if_neg a, h.r13, Option.bind_some, st_ok _ _ h.out (show inb 0 4 by decide), st_ok _ _ h.out (show inb 1 4 by decide), st_ok _ _ h.out (show inb 2 4 by decide), st_ok _ _ h.out (show inb 3 4 by decide), fR_ok 13 h.k, fI_ok 7 hw, fZ_ok 6 hw, e0, e1, e2, e3, eI, eJ]
    by_cases b : bz (I w 6) = 0
    · simp [b]
    · have b1 : bz (I w 6) = 1 := (bz_or _).resolve_left b
      simp [b1]
def drw (v : Int64) : Int64 := ((1103515245 * v) + 12345) &&& 2147483647
def drJ (J : MJ) : MJ := (up2 J.1 0 15 (drw (J.1 0 15)), J.2)
def drQ (v : Int64) (x : Int32) : Int32 := if 0 < x then Int64.toInt32 ((v / 64) - (v / 64) / (Int32.toInt64 x) * (Int32.toInt64 x)) else 0
theorem u_drawOf {J : MJ} (h : KL J) (I : MI) (x : Int32) (hx : 0 < x → ¬ Int32.toInt64 x = 0) : M_X9_drawOf [mR (some 0), mI x] (I, J) = some (some (mI (drQ (drw (J.1 0 15)) x)), (I, drJ J)) := by
  have w : ∀ v, wL (I, J) 9 0 15 v = some (I, (up2 J.1 0 15 v, J.2)) := fun v => if_pos h.k
  have f : ∀ v, fL (I, ((up2 J.1 0 15 v, J.2) : MJ)) 9 0 15 = some v := fun v => by
    rw [fL_ok 15 (show (jS (up2 J.1 0 15 v, J.2) 0).1 = 9 from h.k)]
    simp [up2]
  rw [E_X9_drawOf, fL_ok 15 h.k, Option.bind_some, w, Option.bind_some]
  unfold drQ
  by_cases a : 0 < x
  · rw [if_pos a, if_pos a, f, Option.bind_some, if_neg (by decide), if_neg (hx a)]
    rfl
  · rw [if_neg a, if_neg a]
    rfl
def wrb (I : MI) (x : Int32) : MI := if I 0 11 < 0 then I else if 300 ≤ I 0 11 then I else up2 (up2 I 185 (ix (I 0 11)) x) 0 11 (I 0 11 + 1)
theorem u_writeByte {J : MJ} (h : KL J) (I : MI) (x : Int32) : M_X9_writeByte [mR (some 0), mI x] (I, J) = some (none, (wrb I x, J)) := by
  rw [E_X9_writeByte]
  simp only [fI_ok 11 h.k, Option.bind_some, fR_ok 10 h.k, h.r10, aln_ok h.wri (by decide)]
  unfold wrb
  by_cases a : I 0 11 < 0
  · simp only [if_pos a]
  · simp only [if_neg a]
    rw [show nI 300 = 300 from rfl]
    by_cases b : 300 ≤ I 0 11
    · simp only [if_pos b]
    · simp only [if_neg b, st_ok _ _ h.wri (inb_of rfl a b), Option.bind_some, fI_ok 11 h.k, wI_ok 11 _ h.k]
      rfl
def wrl (x : Int32) (k : Nat) (I : MI) : MI := if q_X9_letterOf x (nI k) ≤ 0 then I else wrb I (97 + q_X9_letterOf x (nI k) - 1)
def wrn (I : MI) (x : Int32) : MI := itr (wrl x) 0 4 I
theorem u_writeName {J : MJ} (h : KL J) (I : MI) (x : Int32) : M_X9_writeName [mR (some 0), mI x] (I, J) = some (none, (wrn I x, J)) := by
  rw [E_X9_writeName]
  have step := loop_all (fun k I => Ev T_X9_writeName 2 [some (mR (some 0)), some (mI x), some (mI (nI k)), none] [] (I, J)) (wrl x) 4 I (fun k I hk => by
    try dsimp only
    rw [E_X9_writeName_2, if_neg (show ¬ (4 : Int32) ≤ nI k from nI_ge hk (by decide)), s_X9_letterOf]
    simp only [Option.bind_some, asI_I, nI_1]
    unfold wrl
    by_cases a : q_X9_letterOf x (nI k) ≤ 0
    · simp only [if_pos a]
    · simp only [if_neg a]
      rw [if_pos (show kd (I, J) 0 = 9 from h.k), u_writeByte h]
      rfl)
  try dsimp only at step
  rw [show (nI 0) = 0 from rfl] at step
  rw [step, E_X9_writeName_2, if_pos (show (4 : Int32) ≤ nI 4 by decide)]
  rfl
def wrs (r L k : Nat) (I : MI) : MI := wrn (wrb I 47) (q_X4_stepAt L (vw 2 (wrb I 47) r) (nI k))
def wrr (I : MI) (r L n : Nat) : MI := itr (fun k I => wrs r L k I) 0 n (if n = 0 then wrb I 47 else I)
theorem wrb_out (I : MI) (x : Int32) (a : Nat) (h0 : a ≠ 0) (h1 : a ≠ 185) : wrb I x a = I a := by
  unfold wrb
  split
  · rfl
  · split
    · rfl
    · funext j
      show (if a = 0 ∧ _ then _ else if a = 185 ∧ _ then _ else _) = _
      rw [if_neg (fun q => h0 q.1), if_neg (fun q => h1 q.1)]
theorem wrn_out (I : MI) (x : Int32) (a : Nat) (h0 : a ≠ 0) (h1 : a ≠ 185) : wrn I x a = I a := by
  have s : ∀ k I, wrl x k I a = I a := fun k I => by
    unfold wrl
    split
    · rfl
    · exact wrb_out _ _ _ h0 h1
  show wrl x 3 (wrl x 2 (wrl x 1 (wrl x 0 I))) a = _
  rw [s, s, s, s]
theorem u_writeRoute {J : MJ} (h : KL J) (I : MI) {r L n : Nat} (hP : RouL J r L) (h0 : r ≠ 0) (h1 : r ≠ 185) (hn : I r 1 = nI n) (hb : n < 1000) : M_X9_writeRoute [mR (some 0), mR (some r)] (I, J) = some (none, (wrr I r L n, J)) := by
  have run : ∀ (f k : Nat) (I : MI), k + f = n → I r 1 = nI n → Ev T_X9_writeRoute 15 [some (mR (some 0)), some (mR (some r)), some (mI (nI k))] [] (I, J) = some (none, (itr (fun k I => wrs r L k I) k f I, J)) := by
    intro f
    induction f with
    | zero =>
      intro k I hk hI
      rw [E_X9_writeRoute_15, fI_ok 1 hP.k, Option.bind_some, hI, show k = n by omega, if_pos (Int32.le_refl _)]
      rfl
    | succ f ih =>
      intro k I hk hI
      rw [E_X9_writeRoute_15, fI_ok 1 hP.k, Option.bind_some, hI, if_neg (nI_ge (show k < n by omega) (by omega)), if_pos (show kd (I, J) 0 = 9 from h.k), u_writeByte h]
      simp only [Option.bind_some, asV_n]
      rw [if_pos (show kd (wrb I 47, J) r = 4 from hP.k), t_X4_stepAt hP]
      simp only [Option.bind_some, asI_I]
      rw [if_pos (show kd (wrb I 47, J) 0 = 9 from h.k), u_writeName h]
      simp only [Option.bind_some, asV_n, nI_1]
      exact ih (k + 1) _ (by omega) (by rw [wrn_out _ _ _ h0 h1, wrb_out _ _ _ h0 h1]; exact hI)
  rw [E_X9_writeRoute, fI_ok 1 hP.k, Option.bind_some, hn]
  unfold wrr
  by_cases a : n = 0
  · rw [a, if_pos (show nI 0 = 0 from rfl), if_pos rfl, if_pos (show kd (I, J) 0 = 9 from h.k), u_writeByte h]
    simp only [Option.bind_some, asV_n]
    have := run 0 0 (wrb I 47) (by omega) (by rw [wrb_out _ _ _ h0 h1]; exact hn)
    exact this
  · rw [if_neg a, if_neg (fun q => by
      have := congrArg Int32.toInt q
      rw [nI_toInt (by omega)] at this
      have e0 : (0 : Int32).toInt = 0 := rfl
      omega)]
    exact run n 0 I (by omega) hn
def adw (x s : Int32) (Q : RouV) : RouV := if (Q 0 1) < 0 then Q else if (400 : Int32) ≤ (Q 0 1) then Q else uv (uv Q 1 (ix (Q 0 1)) (((Int32.toUInt32 x >>> (Int32.toUInt32 s &&& Int32.toUInt32 31)).toInt32) &&& 255)) 0 1 ((Q 0 1) + 1)
def gQ_X5_addWord (Q : RouV) (x : Int32) : RouV := adw x 0 (adw x 8 (adw x 16 (adw x 24 Q)))
theorem t_X5_addWord {J : MJ} {t : Nat} (hT : TapL J t) (I : MI) (x : Int32) : M_X5_addWord [mR (some t), mI x] (I, J) = some (none, (pt I t (gQ_X5_addWord (vw 2 I t) x), J)) := by
  have st : ∀ (Q : RouV) (s : Int32), ¬ s < 0 → Ev T_X5_addWord 3 [some (mR (some t)), some (mI x), some (mI s)] [] (pt I t Q, J) = Ev T_X5_addWord 3 [some (mR (some t)), some (mI x), some (mI (s + (-8)))] [] (pt I t (adw x s Q), J) := by
    intro Q s hs
    rw [P_X5_addWord_3 hT, if_neg hs]
    unfold adw
    by_cases a : (Q 0 1) < 0
    · rw [if_pos a, if_pos a]
    · rw [if_neg a, if_neg a]
      by_cases b : (400 : Int32) ≤ (Q 0 1)
      · rw [if_pos b, if_pos b]
      · rw [if_neg b, if_neg b]
  have h0 := P_X5_addWord hT I (vw 2 I t) x
  rw [pt_vw] at h0
  rw [h0]
  have e := st (vw 2 I t) 24 (by decide)
  rw [pt_vw] at e
  rw [e, show (24 : Int32) + (-8) = 16 from rfl, st _ 16 (by decide), show (16 : Int32) + (-8) = 8 from rfl, st _ 8 (by decide), show (8 : Int32) + (-8) = 0 from rfl, st _ 0 (by decide), show (0 : Int32) + (-8) = -8 from rfl, P_X5_addWord_3 hT, if_pos (by decide)]
  rfl

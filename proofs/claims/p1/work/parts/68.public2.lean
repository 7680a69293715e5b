/-! Public calls of the class that keep no world, on. -/
def hasQ (I : MI) (x : Int32) : Int32 := if x = 0 then I 1 6 else if x = 1 then q_X2_howMany (vw 6 I 1) else if x = 2 then q_X1_howMany (vw 12 I 17) else if x = 3 then q_X1_absences (vw 12 I 17) else if x = 4 then q_X1_freeOnes (vw 12 I 17) else if x = 5 then I 17 11 else if x = 6 then I 17 12 else if x = 7 then I 17 13 else if x = 8 then I 17 14 else if x = 9 then q_X8_handlesOpen (vw 1 I 16) (vw 1 I 29) else if x = 10 then q_X8_walkersUnderWay I 31 else if x = 11 then q_X1_mountedBits (vw 12 I 17) else if x = 12 then I 69 1 else if x = 13 then I 69 2 else if x = 14 then I 67 2 else if x = 15 then q_X1_goneOnes (vw 12 I 17) else -1
theorem u_has {J : MJ} (h : KL J) (I : MI) (x : Int32) : M_X9_has [mR (some 0), mI x] (I, J) = some (some (mI (hasQ I x)), (I, J)) := by
  have k1 : kd (I, J) 17 = 1 := h.mem.k
  have k8 : kd (I, J) 16 = 8 := h.world.k
  have k2 : kd (I, J) 1 = 2 := h.nodes.k
  rw [E_X9_has]
  simp only [fR_ok 2 h.k, h.r2, Option.bind_some, fR_ok 1 h.world.k, h.world.r1, fR_ok 0 h.world.k, h.world.r0, fI_ok 6 h.nodes.k, fI_ok 11 h.mem.k, fI_ok 12 h.mem.k, fI_ok 13 h.mem.k, fI_ok 14 h.mem.k, if_pos k1, if_pos k8, if_pos k2, t_X2_howMany h.nodes I, t_X1_howMany h.mem I, t_X1_absences h.mem I, t_X1_freeOnes h.mem I, t_X8_handlesOpen h.world h.han (by decide) I, t_X8_walkersUnderWay h.world h.wks I, t_X1_mountedBits h.mem I, t_X1_goneOnes h.mem I, asI_I, fR_ok 5 h.k, h.r5, fI_ok 1 h.trc.k, fI_ok 2 h.trc.k, fR_ok 4 h.k, h.r4, fI_ok 2 h.his.1]
  unfold hasQ
  by_cases a0 : x = 0
  · simp only [if_pos a0]
  · simp only [if_neg a0]
    by_cases a1 : x = 1
    · simp only [if_pos a1]
    · simp only [if_neg a1]
      by_cases a2 : x = 2
      · simp only [if_pos a2]
      · simp only [if_neg a2]
        by_cases a3 : x = 3
        · simp only [if_pos a3]
        · simp only [if_neg a3]
          by_cases a4 : x = 4
          · simp only [if_pos a4]
          · simp only [if_neg a4]
            by_cases a5 : x = 5
            · simp only [if_pos a5]
            · simp only [if_neg a5]
              by_cases a6 : x = 6
              · simp only [if_pos a6]
              · simp only [if_neg a6]
                by_cases a7 : x = 7
                · simp only [if_pos a7]
                · simp only [if_neg a7]
                  by_cases a8 : x = 8
                  · simp only [if_pos a8]
                  · simp only [if_neg a8]
                    by_cases a9 : x = 9
                    · simp only [if_pos a9]
                    · simp only [if_neg a9]
                      by_cases a10 : x = 10
                      · simp only [if_pos a10]
                      · simp only [if_neg a10]
                        by_cases a11 : x = 11
                        · simp only [if_pos a11]
                        · simp only [if_neg a11]
                          by_cases a12 : x = 12
                          · simp only [if_pos a12]
                          · simp only [if_neg a12]
                            by_cases a13 : x = 13
                            · simp only [if_pos a13]
                            · simp only [if_neg a13]
                              by_cases a14 : x = 14
                              · simp only [if_pos a14]
                              · simp only [if_neg a14]
                                by_cases a15 : x = 15
                                · simp only [if_pos a15]
                                · simp only [if_neg a15]
def letQ (I : MI) (x y k : Int32) : Int32 := if (if x = 0 then q_X2_exists (vw 6 I 1) y else q_X1_isEntry (vw 12 I 17) y) = 0 then -1 else if k < 0 then -1 else if k < 4 then q_X9_letterOf (if x = 0 then q_X2_nameOf (vw 6 I 1) y else q_X1_nameOf (vw 12 I 17) y) k else -1
theorem u_letter {J : MJ} (h : KL J) (I : MI) (x y k : Int32) : M_X9_letter [mR (some 0), mI x, mI y, mI k] (I, J) = some (some (mI (letQ I x y k)), (I, J)) := by
  have k1 : kd (I, J) 17 = 1 := h.mem.k
  have k2 : kd (I, J) 1 = 2 := h.nodes.k
  rw [E_X9_letter]
  simp only [fR_ok 2 h.k, h.r2, Option.bind_some, fR_ok 1 h.world.k, h.world.r1, fR_ok 0 h.world.k, h.world.r0, if_pos k1, if_pos k2, t_X2_exists h.nodes I, t_X1_isEntry h.mem I, t_X2_nameOf h.nodes I, t_X1_nameOf h.mem I, asI_I, s_X9_letterOf]
  unfold letQ
  by_cases a : x = 0
  · simp only [if_pos a]
    by_cases b : q_X2_exists (vw 6 I 1) y = 0
    · simp only [if_pos b]
    · simp only [if_neg b]
      by_cases c : k < 0
      · simp only [if_pos c]
      · simp only [if_neg c]
        by_cases d : k < 4
        · simp only [if_pos d]
        · simp only [if_neg d]
  · simp only [if_neg a]
    by_cases b : q_X1_isEntry (vw 12 I 17) y = 0
    · simp only [if_pos b]
    · simp only [if_neg b]
      by_cases c : k < 0
      · simp only [if_pos c]
      · simp only [if_neg c]
        by_cases d : k < 4
        · simp only [if_pos d]
        · simp only [if_neg d]
/-- the heap when paths have been taken from the tape -/
def tkn (I : MI) (T : Nat) : MI := clr (rowO I T).2
theorem u_take {J : MJ} (h : KL J) (I : MI) {T : Nat} (hT : T ≤ 400) (hl : I 7 1 = nI T) (x : Int32) : M_X9_takePaths [mR (some 0), mI x] (I, J) = some (some (mI (if (rowO I T).1 = x then 1 else 0)), (tkn I T, J)) := u_takePaths h I hT hl x
theorem u_where {J : MJ} (h : KL J) (I : MI) {T : Nat} (hT : T ≤ 400) (hl : I 7 1 = nI T) : M_X9_where [mR (some 0)] (I, J) = if (rowO I T).1 = 1 then some (some (mI (if 0 ≤ tryQ (tkn I T) then q_X1_nodeOf (tryV (tkn I T)) (tryQ (tkn I T)) else tryQ (tkn I T))), (pt (tkn I T) 55 (tryV (tkn I T)), J)) else some (some (mI (-1)), (tkn I T, J)) := by
  rw [E_X9_where, if_pos (show kd (I, J) 0 = 9 from h.k), u_take h I hT hl]
  simp only [Option.bind_some, asI_I]
  generalize tkn I T = X
  by_cases a : (rowO I T).1 = 1
  · simp only [if_pos a]
    rw [if_neg (by decide)]
    simp only [fR_ok 6 h.k, h.r6, Option.bind_some]
    rw [if_pos (show kd (X, J) 0 = 9 from h.k), u_tryOut h]
    simp only [Option.bind_some, asI_I, fR_ok 3 h.k, h.r3]
    by_cases b : 0 ≤ tryQ (X)
    · simp only [if_pos b]
      rw [if_pos (show kd (_, J) 55 = 1 from h.trial.k), t_X1_nodeOf h.trial, vw_pt]
      rfl
    · simp only [if_neg b]
  · simp only [if_neg a]
    rfl
theorem u_needs {J : MJ} (h : KL J) (I : MI) {T : Nat} (hT : T ≤ 400) (hl : I 7 1 = nI T) : M_X9_needs [mR (some 0)] (I, J) = if (rowO I T).1 = 1 then some (some (mI (tryV (tkn I T) 0 13 - tkn I T 17 13)), (pt (tkn I T) 55 (tryV (tkn I T)), J)) else some (some (mI (-1)), (tkn I T, J)) := by
  rw [E_X9_needs, if_pos (show kd (I, J) 0 = 9 from h.k), u_take h I hT hl]
  simp only [Option.bind_some, asI_I]
  generalize tkn I T = X
  by_cases a : (rowO I T).1 = 1
  · simp only [if_pos a]
    rw [if_neg (by decide)]
    simp only [fR_ok 6 h.k, h.r6, Option.bind_some]
    rw [if_pos (show kd (X, J) 0 = 9 from h.k), u_tryOut h]
    simp only [Option.bind_some, asI_I, fR_ok 3 h.k, h.r3, fI_ok 13 h.trial.k, fR_ok 2 h.k, h.r2, fR_ok 1 h.world.k, h.world.r1, fI_ok 13 h.mem.k]
    rw [p12_0, pt_out (x := 17) (by decide)]
  · simp only [if_neg a]
    rfl
def lp_victim (x1 : Int32) : Nat → Int32 → MemV → Int32 × MemV
  | 0, x2, V => (if x1 = -1 then x2 else -1, V)
  | f + 1, x2, V => if q_X1_longestUnused V (-1) = -1 then (if x1 = -1 then x2 else -1, V) else if x2 = x1 then (q_X1_longestUnused V (-1), V) else lp_victim x1 f (x2 + 1) (gV_X1_drop V (q_X1_longestUnused V (-1)))
def vicO (I : MI) (x1 : Int32) : Int32 × MemV := lp_victim x1 64 0 (gV_X1_copyFrom (vw 12 I 17) (vw 12 I 55))
theorem u_victim {J : MJ} (h : KL J) (I : MI) (x : Int32) : M_X9_victim [mR (some 0), mI x] (I, J) = if I 1 6 ≤ 0 ∨ ¬ (-1) ≤ x then some (some (mI (-1)), (I, J)) else some (some (mI (vicO I x).1), (pt I 55 (vicO I x).2, J)) := by
  have k1 : ∀ X : MI, kd (X, J) 55 = 1 := fun X => h.trial.k
  rw [E_X9_victim, if_pos (show kd (I, J) 0 = 9 from h.k), u_hasTrees h I]
  simp only [Option.bind_some, asI_I]
  by_cases a : I 1 6 ≤ 0
  · rw [if_pos a, if_pos rfl, if_pos (Or.inl a)]
  · rw [if_neg a, if_neg (by decide)]
    by_cases b : (-1) ≤ x
    · rw [if_pos b, if_neg (fun q => q.elim a (fun z => z b))]
      simp only [fR_ok 3 h.k, h.r3, fR_ok 2 h.k, h.r2, fR_ok 1 h.world.k, h.world.r1, Option.bind_some]
      rw [if_pos (k1 I), t_X1_copyFrom h.mem h.trial (by decide) I]
      simp only [Option.bind_some, asV_n]
      have run : ∀ (f k : Nat) (x2 : Int32) (V : MemV), k + f = 64 → Ev T_X9_victim 32 [some (mR (some 0)), some (mI x), some (mI x2), some (mI (nI k)), none] [] (pt I 55 V, J) = some (some (mI (lp_victim x f x2 V).1), (pt I 55 (lp_victim x f x2 V).2, J)) := by
        intro f
        induction f with
        | zero =>
          intro k x2 V hk
          have hk : k = 64 := by omega
          subst hk
          rw [E_X9_victim_32, if_pos (show (64 : Int32) ≤ nI 64 by decide)]
          unfold lp_victim
          split <;> rfl
        | succ f ih =>
          intro k x2 V hk
          rw [E_X9_victim_32, if_neg (show ¬ (64 : Int32) ≤ nI k from nI_ge (show k < 64 by omega) (by decide))]
          simp only [fR_ok 3 h.k, h.r3, Option.bind_some]
          rw [if_pos (k1 _), t_X1_longestUnused h.trial, vw_pt]
          simp only [Option.bind_some, asI_I]
          unfold lp_victim
          by_cases c : q_X1_longestUnused V (-1) = -1
          · simp only [if_pos c]
            split <;> rfl
          · simp only [if_neg c]
            by_cases d : x2 = x
            · simp only [if_pos d]
            · simp only [if_neg d, fR_ok 3 h.k, h.r3, Option.bind_some]
              rw [if_pos (k1 _), t_X1_drop h.trial, vw_pt, pt_pt]
              simp only [Option.bind_some, asV_n, nI_1]
              exact ih (k + 1) _ _ (by omega)
      exact run 64 0 0 _ rfl
    · rw [if_neg b, if_pos (Or.inr b)]
def pthR (I : MI) (e : Int32) : RouV := gP_X8_routeTo 60 (vw 1 I 16) (vw 2 I 183) (vw 6 I 1) (vw 12 I 17) (q_X1_nodeOf (vw 12 I 17) e)
theorem vw_up2 {N : Nat} (I : MI) (a x k : Nat) (v : Int32) (h : x < a ∨ a + N ≤ x) : vw N (up2 I x k v) a = vw N I a := by
  funext j i
  show (if a + j.val = x ∧ _ then _ else _) = _
  rw [if_neg (fun q => by have := q.1; have := j.isLt; omega)]
  rfl
theorem u_path {J : MJ} (h : KL J) (I : MI) (x : Int32) {n : Nat} (hn : pthR I (q_X8_handleAt (vw 1 I 16) (vw 1 I 29) x) 0 1 = nI n) (hb : n < 1000) : M_X9_path [mR (some 0), mI x] (I, J) = if q_X8_handleAt (vw 1 I 16) (vw 1 I 29) x = -1 then some (some (mI (-1)), (I, J)) else if q_X1_isGone (vw 12 I 17) (q_X8_handleAt (vw 1 I 16) (vw 1 I 29) x) = 0 then some (some (mI (wrr (pt (up2 I 0 11 0) 183 (pthR I (q_X8_handleAt (vw 1 I 16) (vw 1 I 29) x))) 183 60 n 0 11)), (wrr (pt (up2 I 0 11 0) 183 (pthR I (q_X8_handleAt (vw 1 I 16) (vw 1 I 29) x))) 183 60 n, J)) else some (some (mI 0), (up2 I 0 11 0, J)) := by
  have k1 : ∀ X : MI, kd (X, J) 17 = 1 := fun X => h.mem.k
  have k8 : ∀ X : MI, kd (X, J) 16 = 8 := fun X => h.world.k
  rw [E_X9_path]
  simp only [fR_ok 2 h.k, h.r2, Option.bind_some]
  rw [if_pos (k8 I), t_X8_handleAt h.world h.han (by decide) I]
  simp only [Option.bind_some, asI_I]
  generalize hx : q_X8_handleAt (vw 1 I 16) (vw 1 I 29) x = e at hn
  by_cases a : e = -1
  · rw [if_pos a, if_pos a]
  · rw [if_neg a, if_neg a, wI_ok 11 _ h.k, Option.bind_some]
    simp only [fR_ok 2 h.k, h.r2, Option.bind_some, fR_ok 1 h.world.k, h.world.r1]
    rw [if_pos (k1 _), t_X1_isGone h.mem, vw_up2 I 17 0 11 0 (by decide)]
    simp only [Option.bind_some, asI_I]
    by_cases b : q_X1_isGone (vw 12 I 17) e = 0
    · rw [if_pos b, if_pos b]
      simp only [fR_ok 2 h.k, h.r2, Option.bind_some, fR_ok 1 h.world.k, h.world.r1]
      rw [if_pos (k1 _), t_X1_nodeOf h.mem, vw_up2 I 17 0 11 0 (by decide)]
      simp only [Option.bind_some, asI_I, fR_ok 9 h.k, h.r9]
      rw [if_pos (k8 _), t_X8_routeTo h.world h.long h.nodes h.mem (by decide) (by decide) (by decide) (by decide) (by decide) (by decide), vw_up2 I 17 0 11 0 (by decide), vw_up2 I 1 0 11 0 (by decide), vw_up2 I 183 0 11 0 (by decide), vw_up2 I 16 0 11 0 (by decide)]
      simp only [Option.bind_some, asV_n, fR_ok 9 h.k, h.r9]
      rw [if_pos (show kd (_, J) 0 = 9 from h.k)]
      have e2 := u_writeRoute h (pt (up2 I 0 11 0) 183 (pthR I e)) (r := 183) (L := 60) (n := n) h.long (by decide) (by decide) (by rw [p2_0]; exact hn) hb
      rw [show (gP_X8_routeTo 60 (vw 1 I 16) (vw 2 I 183) (vw 6 I 1) (vw 12 I 17) (q_X1_nodeOf (vw 12 I 17) e)) = pthR I e from rfl, e2]
      simp only [Option.bind_some, asV_n, fI_ok 11 h.k]
    · rw [if_neg b, if_neg b, fI_ok 11 h.k, Option.bind_some]
      show some (some (mI (if 0 = 0 ∧ 11 = 11 then (0 : Int32) else _)), _) = _
      rw [if_pos ⟨rfl, rfl⟩]

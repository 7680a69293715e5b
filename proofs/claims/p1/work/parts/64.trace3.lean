/-! Traces: all rooms; a trace taken. -/
/-- a row as the one before -/
def ccp (y r : Nat) (I : MI) : MI := up2 (fun x j => if x = y + 27 + r ∧ j < 12 then I (y + 27 + (r - 1)) j else I x j) (y + 64) r (I (y + 64) (r - 1))
def astep (y n L r : Nat) (s : Int32 × MI) : Int32 × MI := if s.1 = 0 ∧ r ≠ 0 then (s.1, ccp y r s.2) else (if rI s.2 y n r L (y + 13) 14 ≤ s.2 (y + 1) 14 then 0 else 1, rI s.2 y n r L)
theorem rI_out (I : MI) (y n r L : Nat) (x : Nat) (h1 : x < y + 13 ∨ y + 25 ≤ x) (h2 : x ≠ y + 27 + r) (h3 : x ≠ y + 64) : rI I y n r L x = I x := by
  unfold rI
  funext j
  show (if x = y + 64 ∧ _ then _ else rrun I y n r L x j) = _
  rw [if_neg (fun q => h3 q.1), rrun_out _ _ _ _ _ _ h1 h2]
theorem astep_out (y n L r : Nat) (s : Int32 × MI) (x : Nat) (h1 : x < y + 13 ∨ y + 25 ≤ x) (h2 : x ≠ y + 27 + r) (h3 : x ≠ y + 64) : (astep y n L r s).2 x = s.2 x := by
  unfold astep
  split
  · funext j
    show (if x = y + 64 ∧ j = r then _ else if x = y + 27 + r ∧ j < 12 then _ else _) = _
    rw [if_neg (fun q => h3 q.1), if_neg (fun q => h2 q.1)]
  · exact rI_out _ _ _ _ _ _ h1 h2 h3
def rall (I : MI) (y n L : Nat) : Int32 × MI := itr (fun r s => astep y n L r s) 0 37 (1, I)
theorem t_X6_runAll {J : MJ} {y n L m k : Nat} (h : TrcL J y n) (hM : MemL J m k) (d : m + 12 ≤ y) (I : MI) (hL : I y 1 = nI L) (hl : L ≤ 12) : M_X6_runAll [mR (some y), mR (some m)] (I, J) = if L = 0 then some (some (mI 0), (I, J)) else some (some (mI 1), ((rall (prep I y m) y n L).2, J)) := by
  have hd := h.d
  rw [E_X6_runAll, fI_ok 1 h.k, Option.bind_some, hL]
  by_cases e : L = 0
  · rw [if_pos e, e, if_pos (show nI 0 = 0 from rfl)]
    simp
  · rw [if_neg e, if_neg (fun q => by
      have := congrArg Int32.toInt q
      rw [nI_toInt (by omega)] at this
      have e0 : (0 : Int32).toInt = 0 := rfl
      omega), if_pos (show kd (I, J) y = 6 from h.k), t_X6_prepare h hM d I]
    simp only [Option.bind_some, asV_n]
    have step2 : ∀ (f r : Nat) (s : Int32 × MI), r + f = 37 → s.2 y 1 = nI L → Ev T_X6_runAll 18 [some (mR (some y)), none, some (mI s.1), some (mI (nI r))] [] (s.2, J) = Ev T_X6_runAll 18 [some (mR (some y)), none, some (mI (itr (fun r s => astep y n L r s) r f s).1), some (mI (nI 37))] [] ((itr (fun r s => astep y n L r s) r f s).2, J) := by
      intro f
      induction f with
      | zero =>
        intro r s hr hs
        rw [show r = 37 by omega]
        rfl
      | succ f ih =>
        intro r s hr hs
        have hr37 : r < 37 := by omega
        have hz : nI r = 0 ↔ r = 0 := ⟨fun q => by
          have := congrArg Int32.toInt q
          rw [nI_toInt (by omega)] at this
          have e0 : (0 : Int32).toInt = 0 := rfl
          omega, fun q => by rw [q]; rfl⟩
        have nxt := ih (r + 1) (astep y n L r s) (by omega) (by rw [astep_out _ _ _ _ _ _ (by omega) (by omega) (by omega)]; exact hs)
        have goalR : itr (fun r s => astep y n L r s) r (f + 1) s = itr (fun r s => astep y n L r s) (r + 1) f (astep y n L r s) := rfl
        rw [goalR, ← nxt, E_X6_runAll_18, if_neg (show ¬ (37 : Int32) ≤ nI r from nI_ge hr37 (by decide))]
        obtain ⟨t, I'⟩ := s
        have runs : ∀ (hh : ¬ (t = 0 ∧ r ≠ 0)), ((M_X6_runBy [mR (some y), mI (nI r)] (I', J)).bind fun u18 => (asI u18.1).bind fun y19 => Ev T_X6_runAll 18 [some (mR (some y)), none, some (mI y19), some (mI (nI r + 1))] [] u18.2) = Ev T_X6_runAll 18 [some (mR (some y)), none, some (mI (astep y n L r (t, I')).1), some (mI (nI (r + 1)))] [] ((astep y n L r (t, I')).2, J) := by
          intro hh
          rw [t_X6_runBy h I' hs hl hr37]
          simp only [Option.bind_some, asI_I, nI_1]
          unfold astep
          rw [if_neg hh]
        by_cases a : t = 0
        · rw [if_pos a]
          by_cases b : r = 0
          · rw [if_pos (hz.mpr b), if_pos (show kd (I', J) y = 6 from h.k)]
            exact runs (fun q => q.2 b)
          · rw [if_neg (fun q => b (hz.mp q))]
            have e1 : nI r - 1 = nI (r - 1) := by
              have : nI r = nI (r - 1) + 1 := by rw [nI_1, show r - 1 + 1 = r by omega]
              rw [this]
              exact Int32.add_sub_cancel _ _
            have hr1 : r - 1 < 37 := by omega
            simp only [fR_ok 5 h.k, h.r5, Option.bind_some, e1, h.lg _ hr1, h.lg _ hr37]
            rw [cpy_ok (h.g hr1).2 (h.g hr37).2 (by decide) (by omega) 12 rfl]
            simp only [fR_ok 6 h.k, h.r6, Option.bind_some, h.lt _ hr1]
            rw [st_ok _ _ h.s6 (inb_nI hr37 (by decide)), Option.bind_some, show (nI r).toNatClampNeg = r from ix_nI (by omega), nI_1]
            have ea : astep y n L r (t, I') = (t, ccp y r I') := by
              unfold astep
              rw [if_pos ⟨a, b⟩]
            rw [ea]
            show Ev T_X6_runAll 18 [some (mR (some y)), none, some (mI t), some (mI (nI (r + 1)))] [] (up2 _ (y + 64) r (if y + 64 = y + 27 + r ∧ r - 1 < 12 then _ else I' (y + 64) (r - 1)), J) = _
            rw [if_neg (by omega)]
            rfl
        · rw [if_neg a, if_pos (show kd (I', J) y = 6 from h.k)]
          exact runs (fun q => a q.1)
    have hb : (prep I y m) y 1 = nI L := by
      unfold prep
      rw [pt_out (x := y) (by omega)]
      exact hL
    have run := step2 37 0 (1, prep I y m) rfl hb
    rw [show (nI 0) = 0 from rfl] at run
    show Ev T_X6_runAll 18 [some (mR (some y)), none, some (mI 1), some (mI 0)] [] (prep I y m, J) = _
    refine run.trans ?_
    rw [E_X6_runAll_18, if_pos (show (37 : Int32) ≤ nI 37 by decide)]
    simp [rall]
theorem t_X6_loadsBy {J : MJ} {y n L m k r : Nat} (h : TrcL J y n) (hM : MemL J m k) (d : m + 12 ≤ y) (I : MI) (hL : I y 1 = nI L) (hl : L ≤ 12) (hr : r < 37) : M_X6_loadsBy [mR (some y), mI (nI (4 + r)), mR (some m)] (I, J) = some (some (mI (rI (prep I y m) y n r L (y + 64) r)), (rI (prep I y m) y n r L, J)) := by
  have hd := h.d
  have e1 : nI (4 + r) - 4 = nI r := by
    rw [← nI_4, Int32.add_comm]
    exact Int32.add_sub_cancel _ _
  have hb : (prep I y m) y 1 = nI L := by
    unfold prep
    rw [pt_out (x := y) (by omega)]
    exact hL
  rw [E_X6_loadsBy, e1, if_neg (nI_pos (by omega)), if_pos (show nI r < 37 from Int32.not_le.mp (nI_ge hr (by decide))), if_pos (show kd (I, J) y = 6 from h.k), t_X6_prepare h hM d I]
  simp only [Option.bind_some, asV_n]
  rw [if_pos (show kd (prep I y m, J) y = 6 from h.k), t_X6_runBy h _ hb hl hr]
  simp only [Option.bind_some, asI_I, fR_ok 6 h.k, h.r6, h.lt _ hr]
/-- where the routes that were told lie -/
def rr (t k : Nat) : Nat := if k < 2 then t + 2 * k else t + 2 * k + 1
def TolL (J : MJ) (t : Nat) : Prop := jS J (t + 4) = (13, 12) ∧ ∀ k, k < 12 → jR J (t + 4) k = some (rr t k) ∧ RouL J (rr t k) 12
theorem TolL.l {J : MJ} {t : Nat} (h : TolL J t) (I : MI) {k : Nat} (hk : k < 12) : ldR (I, J) (t + 4) (nI k) = some (some (rr t k)) := by
  rw [ldR_ok _ h.1 (by decide) (inb_nI hk (by decide)), show (nI k).toNatClampNeg = k from ix_nI (by omega)]
  exact congrArg some (h.2 k hk).1
def bstep (y t k : Nat) (I : MI) : MI := up2 (pt I (y + 65 + 2 * k) (gP_X4_copyFrom 12 12 (vw 2 I (rr t k)) (vw 2 I (y + 65 + 2 * k)))) y 1 (I y 1 + 1)
def bcm (I : MI) (y t c : Nat) : MI := itr (fun k I => bstep y t k I) 0 c (up2 (up2 I y 1 0) y 2 (-1))
theorem t_X6_become {J : MJ} {y n t c : Nat} (h : TrcL J y n) (ht : TolL J t) (d : y + 89 ≤ t) (I : MI) (hc : c ≤ 12) : M_X6_become [mR (some y), mR (some (t + 4)), mI (nI c)] (I, J) = some (none, (bcm I y t c, J)) := by
  rw [E_X6_become, if_pos (show kd (I, J) y = 6 from h.k), t_X6_forget h I]
  simp only [Option.bind_some, asV_n]
  unfold bcm
  generalize up2 (up2 I y 1 0) y 2 (-1) = I0
  have step := loop_all (fun k I => Ev T_X6_become 6 [some (mR (some y)), some (mR (some (t + 4))), some (mI (nI c)), some (mI (nI k))] [] (I, J)) (fun k I => bstep y t k I) c I0 (fun k I hk => by
    have hk12 : k < 12 := by omega
    try dsimp only
    rw [E_X6_become_6, if_neg (nI_ge hk (by omega))]
    simp only [fR_ok 0 h.k, h.r0, Option.bind_some, aln_ok h.s0 (by decide), aln_ok ht.1 (by decide)]
    rw [if_neg (show ¬ nI 12 ≤ nI k from nI_ge hk12 (by decide)), if_neg (show ¬ nI 12 ≤ nI k from nI_ge hk12 (by decide))]
    simp only [h.lq I hk12, ht.l I hk12, Option.bind_some, cR_s]
    rw [if_pos (show kd (I, J) (y + 65 + 2 * k) = 4 from (h.q hk12).2.k), t_X4_copyFrom (ht.2 k hk12).2 (h.q hk12).2 (by unfold rr; split <;> omega) I]
    simp only [Option.bind_some, asV_n, fI_ok 1 h.k, wI_ok 1 _ h.k, nI_1]
    rw [pt_out (x := y) (by omega)]
    rfl)
  try dsimp only at step
  rw [show (nI 0) = 0 from rfl] at step
  rw [step, E_X6_become_6, if_pos (Int32.le_refl _)]

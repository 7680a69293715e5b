/-! Traces, on. -/
/-- the telling path so far: (best, fewest) by places, best = 12 for none -/
def lp_telling (I : MI) (y L : Nat) : Nat → Nat → Int32 → Int32 → Int32 × Int32
  | 0, _, b, w => (b, w)
  | f + 1, k, b, w => if L ≤ k then (b, w) else if mostL I y k = 0 then lp_telling I y L f (k + 1) b w else if w ≤ nI (mostL I y k) then lp_telling I y L f (k + 1) b w else lp_telling I y L f (k + 1) (nI k) (nI (mostL I y k))
theorem mostL_le (I : MI) (y p : Nat) : mostL I y p ≤ 37 := by
  have : ∀ f k m, m ≤ 37 → lp_mostLeft I y p f k m ≤ 37 := by
    intro f
    induction f with
    | zero => intro k m h; exact h
    | succ f ih =>
      intro k m h
      apply ih
      have := alike_le I y p k
      split <;> omega
  exact this 37 0 0 (by omega)
def q_X6_telling (I : MI) (y L : Nat) (x1 : Int32) : Int32 := if (lp_telling I y L 12 0 (-1) 38).1 = -1 then (lp_telling I y L 12 0 (-1) 38).1 else if x1 = 0 then (lp_telling I y L 12 0 (-1) 38).1 else (lp_telling I y L 12 0 (-1) 38).2
theorem lr_telling {J : MJ} {y n L : Nat} (h : TrcL J y n) (I : MI) (hL : I y 1 = nI L) (hl : L ≤ 12) (x1 : Int32) : ∀ (f k : Nat) (b w : Int32), k + f = 12 → Ev T_X6_telling 8 [some (mR (some y)), some (mI x1), some (mI b), some (mI w), some (mI (nI k)), none] [] (I, J) = some (some (mI (if (lp_telling I y L f k b w).1 = -1 then (lp_telling I y L f k b w).1 else if x1 = 0 then (lp_telling I y L f k b w).1 else (lp_telling I y L f k b w).2)), (I, J)) := by
  have fin : ∀ b w : Int32, (if b = ((-1)) then some (some (mI b), (I, J)) else (if x1 = 0 then some (some (mI b), (I, J)) else some (some (mI w), (I, J)))) = some (some (mI (if b = -1 then b else if x1 = 0 then b else w)), (I, J)) := by
    intro b w
    by_cases a : b = -1
    · rw [if_pos a, if_pos a]
    · rw [if_neg a, if_neg a]
      by_cases c : x1 = 0
      · rw [if_pos c, if_pos c]
      · rw [if_neg c, if_neg c]
  intro f
  induction f with
  | zero =>
    intro k b w hk
    have hk : k = 12 := by omega
    subst hk
    rw [E_X6_telling_8, fI_ok 1 h.k, Option.bind_some, hL]
    by_cases e : nI L ≤ nI 12
    · rw [if_pos e, fin]; rfl
    · rw [if_neg e, if_pos (show (12 : Int32) ≤ nI 12 by decide), fin]; rfl
  | succ f ih =>
    intro k b w hk
    rw [E_X6_telling_8, fI_ok 1 h.k, Option.bind_some, hL]
    unfold lp_telling
    by_cases e : L ≤ k
    · rw [if_pos (by rw [i32_le, nI_toInt (by omega), nI_toInt (by omega)]; omega), fin]
      simp only [if_pos e]
    · rw [if_neg (by rw [i32_le, nI_toInt (by omega), nI_toInt (by omega)]; omega), if_neg (show ¬ (12 : Int32) ≤ nI k from nI_ge (show k < 12 by omega) (by decide)), if_pos (show kd (I, J) y = 6 from h.k), t_X6_mostLeft h I (by omega)]
      simp only [Option.bind_some, asI_I, nI_1, if_neg e]
      have hm := mostL_le I y k
      by_cases c : mostL I y k = 0
      · simp only [if_pos c]
        rw [c, if_pos (show nI 0 ≤ 0 by decide)]
        exact ih (k + 1) _ _ (by omega)
      · simp only [if_neg c]
        rw [if_neg (by rw [i32_le, nI_toInt (by omega)]; exact fun q => c (by have : (0 : Int32).toInt = 0 := rfl; omega))]
        by_cases d : w ≤ nI (mostL I y k)
        · simp only [if_pos d]
          exact ih (k + 1) _ _ (by omega)
        · simp only [if_neg d]
          exact ih (k + 1) _ _ (by omega)
theorem t_X6_telling {J : MJ} {y n L : Nat} (h : TrcL J y n) (I : MI) (hL : I y 1 = nI L) (hl : L ≤ 12) (x1 : Int32) : M_X6_telling [mR (some y), mI x1] (I, J) = some (some (mI (q_X6_telling I y L x1)), (I, J)) := by
  rw [E_X6_telling]
  exact lr_telling h I hL hl x1 12 0 (-1) 38 rfl
/-- the bare memory made ready -/
def prep (I : MI) (y m : Nat) : MI := pt I (y + 1) (gV_X1_keepMountsAlone (gV_X1_copyFrom (vw 12 I m) (vw 12 I (y + 1))))
theorem t_X6_prepare {J : MJ} {y n m k : Nat} (h : TrcL J y n) (hM : MemL J m k) (d : m + 12 ≤ y) (I : MI) : M_X6_prepare [mR (some y), mR (some m)] (I, J) = some (none, (prep I y m, J)) := by
  rw [E_X6_prepare, fR_ok 3 h.k, Option.bind_some, h.r3, Option.bind_some, if_pos (show kd (I, J) (y + 1) = 1 from h.b.k), t_X1_copyFrom hM h.b (by omega) I]
  simp only [Option.bind_some, asV_n, fR_ok 3 h.k, h.r3]
  rw [if_pos (show kd (pt I (y + 1) (gV_X1_copyFrom (vw 12 I m) (vw 12 I (y + 1))), J) (y + 1) = 1 from h.b.k), t_X1_keepMountsAlone h.b, vw_pt, pt_pt]
  rfl
/-- one path of the trace by the room of row r -/
def rstep (y n r p : Nat) (I : MI) : MI := up2 (pt I (y + 13) (gV_X1_walk 12 (vw 2 I (y + 65 + 2 * p)) (vw 6 I n) (vw 12 I (y + 13)) (I (y + 65 + 2 * p) 1))) (y + 27 + r) p (gV_X1_walk 12 (vw 2 I (y + 65 + 2 * p)) (vw 6 I n) (vw 12 I (y + 13)) (I (y + 65 + 2 * p) 1) 0 13 - I (y + 13) 13)
def rrun (I : MI) (y n r L : Nat) : MI := itr (fun p I => rstep y n r p I) 0 L (pt I (y + 13) (uv (gV_X1_copyFrom (vw 12 I (y + 1)) (vw 12 I (y + 13))) 0 11 (nI (4 + r))))
def rI (I : MI) (y n r L : Nat) : MI := up2 (rrun I y n r L) (y + 64) r (rrun I y n r L (y + 13) 13 - gV_X1_copyFrom (vw 12 I (y + 1)) (vw 12 I (y + 13)) 0 13)
theorem rstep_out (y n r p : Nat) (I : MI) (x : Nat) (h1 : x < y + 13 ∨ y + 25 ≤ x) (h2 : x ≠ y + 27 + r) : rstep y n r p I x = I x := by
  unfold rstep
  funext j
  show (if x = y + 27 + r ∧ j = p then _ else _) = _
  rw [if_neg (fun q => h2 q.1), pt_out (x := x) (by omega)]
theorem rrun_out (I : MI) (y n r L : Nat) (x : Nat) (h1 : x < y + 13 ∨ y + 25 ≤ x) (h2 : x ≠ y + 27 + r) : rrun I y n r L x = I x := by
  have : ∀ (f k : Nat) (I : MI), itr (fun p I => rstep y n r p I) k f I x = I x := by
    intro f
    induction f with
    | zero => intro k I; rfl
    | succ f ih =>
      intro k I
      show itr (fun p I => rstep y n r p I) (k + 1) f (rstep y n r k I) x = _
      rw [ih, rstep_out _ _ _ _ _ _ h1 h2]
  unfold rrun
  rw [this, pt_out (x := x) (by omega)]
theorem t_X6_runBy {J : MJ} {y n L r : Nat} (h : TrcL J y n) (I : MI) (hL : I y 1 = nI L) (hl : L ≤ 12) (hr : r < 37) : M_X6_runBy [mR (some y), mI (nI r)] (I, J) = some (some (mI (if rI I y n r L (y + 13) 14 ≤ I (y + 1) 14 then 0 else 1)), (rI I y n r L, J)) := by
  have hd := h.d
  rw [E_X6_runBy, if_neg (nI_pos (by omega)), if_pos (show nI r < 37 from Int32.not_le.mp (nI_ge hr (by decide)))]
  simp only [fR_ok 4 h.k, fR_ok 3 h.k, h.r4, h.r3, Option.bind_some]
  rw [if_pos (show kd (I, J) (y + 13) = 1 from h.t.k), t_X1_copyFrom h.b h.t (by omega) I]
  simp only [Option.bind_some, asV_n, fR_ok 4 h.k, h.r4, wI_ok 11 _ h.t.k, fI_ok 13 h.t.k, nI_4]
  rw [show up2 (pt I (y + 13) (gV_X1_copyFrom (vw 12 I (y + 1)) (vw 12 I (y + 13)))) (y + 13) 11 (nI (4 + r)) = pt I (y + 13) (uv (gV_X1_copyFrom (vw 12 I (y + 1)) (vw 12 I (y + 13))) 0 11 (nI (4 + r))) from u12_0, p12_0, uv_n _ _ _ _ _ _ (by decide)]
  generalize hx2 : gV_X1_copyFrom (vw 12 I (y + 1)) (vw 12 I (y + 13)) 0 13 = x2
  have step := loop_all (fun p I' => Ev T_X6_runBy 43 [some (mR (some y)), some (mI (nI r)), some (mI x2), some (mI (nI p)), none, none] [] (if I' y 1 = nI L then I' else I', J)) (fun p I' => if I' y 1 = nI L then rstep y n r p I' else I') L
  have step2 : ∀ (f k : Nat) (I' : MI), k + f = L → I' y 1 = nI L → Ev T_X6_runBy 43 [some (mR (some y)), some (mI (nI r)), some (mI x2), some (mI (nI k)), none, none] [] (I', J) = Ev T_X6_runBy 43 [some (mR (some y)), some (mI (nI r)), some (mI x2), some (mI (nI L)), none, none] [] (itr (fun p I => rstep y n r p I) k f I', J) := by
    intro f
    induction f with
    | zero =>
      intro k I' hk hI
      rw [show k = L by omega]
      rfl
    | succ f ih =>
      intro k I' hk hI
      have hk12 : k < 12 := by omega
      rw [E_X6_runBy_43, fI_ok 1 h.k, Option.bind_some, hI, if_neg (by rw [i32_le, nI_toInt (by omega), nI_toInt (by omega)]; omega)]
      simp only [fR_ok 0 h.k, h.r0, Option.bind_some, aln_ok h.s0 (by decide)]
      rw [if_neg (show ¬ nI 12 ≤ nI k from nI_ge hk12 (by decide))]
      simp only [h.lq I' hk12, fR_ok 4 h.k, h.r4, Option.bind_some, fI_ok 13 h.t.k, cR_s, fI_ok 1 (h.q hk12).2.k]
      rw [if_pos (show kd (I', J) (y + 13) = 1 from h.t.k), t_X1_walk (h.q hk12).2 h.n h.t (by omega) (by omega) (by omega) I']
      simp only [Option.bind_some, asI_I, fR_ok 5 h.k, h.r5, h.lg _ hr, fR_ok 4 h.k, h.r4, fI_ok 13 h.t.k]
      rw [p12_0, st_ok _ _ (h.g hr).2 (inb_nI hk12 (by decide)), Option.bind_some, show (nI k).toNatClampNeg = k from ix_nI (by omega), nI_1]
      have hq := ih (k + 1) (rstep y n r k I') (by omega) (by rw [rstep_out _ _ _ _ _ _ (by omega) (by omega)]; exact hI)
      exact hq
  have hb : (pt I (y + 13) (uv (gV_X1_copyFrom (vw 12 I (y + 1)) (vw 12 I (y + 13))) 0 11 (nI (4 + r)))) y 1 = nI L := by
    rw [pt_out (x := y) (by omega)]
    exact hL
  have run := step2 L 0 _ (by omega) hb
  rw [show (nI 0) = 0 from rfl] at run
  rw [run]
  show Ev T_X6_runBy 43 _ [] (rrun I y n r L, J) = _
  have hy : rrun I y n r L y = I y := rrun_out _ _ _ _ _ _ (by omega) (by omega)
  rw [E_X6_runBy_43, fI_ok 1 h.k, Option.bind_some, hy, hL, if_pos (Int32.le_refl _)]
  simp only [fR_ok 6 h.k, h.r6, fR_ok 4 h.k, h.r4, Option.bind_some, fI_ok 13 h.t.k, st_ok _ _ h.s6 (inb_nI hr (by decide)), fI_ok 14 h.t.k, fR_ok 3 h.k, h.r3, fI_ok 14 h.b.k]
  rw [show (nI r).toNatClampNeg = r from ix_nI (by omega), ← hx2]
  show (if (rI I y n r L) (y + 13) 14 ≤ (rI I y n r L) (y + 1) 14 then _ else _) = _
  have e1 : (rI I y n r L) (y + 1) 14 = I (y + 1) 14 := by
    unfold rI
    show (if y + 1 = y + 64 ∧ _ then _ else rrun I y n r L (y + 1) 14) = _
    rw [if_neg (by omega), rrun_out _ _ _ _ _ _ (by omega) (by omega)]
  rw [e1]
  by_cases c : rI I y n r L (y + 13) 14 ≤ I (y + 1) 14
  · simp only [if_pos c]
    simp [rI]
  · simp only [if_neg c]
    simp [rI]

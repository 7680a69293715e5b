/-! The reference: an entry made. -/
def mk0 (I : MI) (e : Nat) (x1 x2 x3 : Int32) : MI := up2 (up2 (up2 (up2 (up2 (up2 (up2 (up2 I 194 (701 + 9 * e + 0) 1) 194 (701 + 9 * e + 1) x1) 194 (701 + 9 * e + 2) x2) 194 (701 + 9 * e + 3) x3) 194 (701 + 9 * e + 4) 0) 194 (701 + 9 * e + 6) (I 194 0)) 194 (701 + 9 * e + 7) (-1)) 194 (701 + 9 * e + 8) 0
theorem w_makes {J : MJ} (h : RefL J) (I : MI) (x1 x2 x3 : Int32) {e : Nat} (he : fst? (fun e => !thQ (I 194) e) 0 128 = some e) {s' : MH} (hc : M_X10_comesTo [mR (some 188), mI (nI e)] (mk0 I e x1 x2 x3, J) = some (none, s')) : M_X10_makes [mR (some 188), mI x1, mI x2, mI x3] (I, J) = some (some (mI (nI e)), s') := by
  have hf := fst_some he
  have he128 : e < 128 := by omega
  have run : ∀ k, k ≤ e → Ev T_X10_makes 3 [some (mR (some 188)), some (mI x1), some (mI x2), some (mI x3), some (mI 0)] [] (I, J) = Ev T_X10_makes 3 [some (mR (some 188)), some (mI x1), some (mI x2), some (mI x3), some (mI (nI k))] [] (I, J) := by
    intro k
    induction k with
    | zero => intro _; rfl
    | succ k ih =>
      intro hk
      rw [ih (by omega), E_X10_makes_3, if_pos (show kd (I, J) 188 = 10 from h.k), w_its h I 0 (show (0 : Int32) = nI 0 from rfl) (show k < 128 by omega) (by decide)]
      simp only [Option.bind_some, asI_I]
      have hth := hf.2.2.2 k (by omega) (by omega)
      have : I 194 (701 + 9 * k + 0) = 1 := by
        unfold thQ at hth
        simpa using hth
      rw [if_pos this, nI_1]
  have ne : ¬ I 194 (701 + 9 * e + 0) = 1 := by
    have := hf.2.2.1
    unfold thQ at this
    simpa using this
  have l0 : ∀ X : MI, ld (X, J) 11 194 0 = some (X 194 0) := fun X => ld194 h X (k := 0) (by decide)
  have st' : ∀ (X : MI) (f : Nat) (v : Int32), f < 9 → st (X, J) 11 194 (nI (701 + 9 * e + f)) v = some (up2 X 194 (701 + 9 * e + f) v, J) := fun X f v hf => st194 h X (by omega) v
  have r0 : ∀ (X : MI) (f : Nat) (v : Int32), up2 X 194 (701 + 9 * e + f) v 194 0 = X 194 0 := fun X f v => by
    unfold up2
    rw [if_neg (by omega)]
  rw [E_X10_makes, run e (Nat.le_refl _), E_X10_makes_3, if_pos (show kd (I, J) 188 = 10 from h.k), w_its h I 0 (show (0 : Int32) = nI 0 from rfl) he128 (by decide)]
  simp only [Option.bind_some, asI_I]
  rw [if_neg ne]
  simp only [fR_ok 18 h.k, h.r18, Option.bind_some, asI_I, w_entryAt _ e 0 (show (0 : Int32) = nI 0 from rfl), w_entryAt _ e 1 (show (1 : Int32) = nI 1 from rfl), w_entryAt _ e 2 (show (2 : Int32) = nI 2 from rfl), w_entryAt _ e 3 (show (3 : Int32) = nI 3 from rfl), w_entryAt _ e 4 (show (4 : Int32) = nI 4 from rfl), w_entryAt _ e 6 (show (6 : Int32) = nI 6 from rfl), w_entryAt _ e 7 (show (7 : Int32) = nI 7 from rfl), w_entryAt _ e 8 (show (8 : Int32) = nI 8 from rfl), l0, st' _ 0 _ (by decide), st' _ 1 _ (by decide), st' _ 2 _ (by decide), st' _ 3 _ (by decide), st' _ 4 _ (by decide), st' _ 6 _ (by decide), st' _ 7 _ (by decide), st' _ 8 _ (by decide), r0]
  rw [if_pos (show kd (_, J) 188 = 10 from h.k)]
  have hc' := hc
  unfold mk0 at hc'
  rw [hc']
  rfl

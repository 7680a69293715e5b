/-! The reference: a walker notes where it came. -/
def noteD (I : MI) (w m e : Nat) : MI := up2 (up2 (up2 (up2 I 194 (17 + 96 * w + (18 + 3 * m)) (nI e)) 194 (17 + 96 * w + (18 + 3 * m) + 1) (I 194 (701 + 9 * e + 6))) 194 (17 + 96 * w + (18 + 3 * m) + 2) (I 194 (701 + 9 * e + 4))) 194 (17 + 96 * w + 5) (nI (m + 1))
theorem w_notes {J : MJ} (h : RefL J) (I : MI) {w m e : Nat} (hw : I 188 21 = nI w) (hw4 : w < 4) (hm : I 194 (17 + 96 * w + 5) = nI m) (hm25 : m < 26) (he : e < 128) : M_X10_notes [mR (some 188), mI (nI e)] (I, J) = some (none, (noteD I w m e, J)) := by
  have k10 : ∀ X : MI, kd (X, J) 188 = 10 := fun X => h.k
  have nw1 : ¬ nI w = -1 := fun q => by
    have := congrArg Int32.toInt q
    rw [nI_toInt (by omega)] at this
    have e0 : (-1 : Int32).toInt = -1 := rfl
    omega
  have e18 : (18 : Int32) + 3 * nI m = nI (18 + 3 * m) := by
    rw [show (18 : Int32) = nI 18 from rfl, show (3 : Int32) = nI 3 from rfl, nI_mul, nI_add]
  have f21 : ∀ (X : MI), X 188 = I 188 → X 188 21 = nI w := fun X q => by rw [q]; exact hw
  rw [E_X10_notes, fI_ok 21 h.k, Option.bind_some, hw, if_neg nw1, Option.bind_some, Option.bind_some, if_pos (k10 I), w_walkerHas h I 5 (show (5 : Int32) = nI 5 from rfl) hw4 (by decide), hm]
  simp only [Option.bind_some, asI_I]
  rw [w_walkerAt _ w (18 + 3 * m) e18]
  simp only [Option.bind_some, asI_I, fR_ok 18 h.k, h.r18]
  rw [st194 h I (show 17 + 96 * w + (18 + 3 * m) < 1853 by omega), Option.bind_some]
  simp only [fR_ok 18 h.k, h.r18, Option.bind_some]
  rw [if_pos (k10 _), w_its h _ 6 (show (6 : Int32) = nI 6 from rfl) he (by decide)]
  simp only [Option.bind_some, asI_I]
  rw [show nI (17 + 96 * w + (18 + 3 * m)) + 1 = nI (17 + 96 * w + (18 + 3 * m) + 1) from nI_1 _, st194 h _ (show 17 + 96 * w + (18 + 3 * m) + 1 < 1853 by omega), Option.bind_some]
  simp only [fR_ok 18 h.k, h.r18, Option.bind_some]
  rw [if_pos (k10 _), w_its h _ 4 (show (4 : Int32) = nI 4 from rfl) he (by decide)]
  simp only [Option.bind_some, asI_I]
  rw [show nI (17 + 96 * w + (18 + 3 * m)) + 2 = nI (17 + 96 * w + (18 + 3 * m) + 2) from nI_add _ 2, st194 h _ (show 17 + 96 * w + (18 + 3 * m) + 2 < 1853 by omega), Option.bind_some]
  simp only [fR_ok 18 h.k, h.r18, Option.bind_some, fI_ok 21 h.k]
  have o1 : ∀ (X : MI) (k : Nat) (v : Int32), up2 X 194 k v 188 21 = X 188 21 := fun X k v => by
    unfold up2
    rw [if_neg (by omega)]
  have o2 : ∀ (X : MI) (k k' : Nat) (v : Int32), k' ≠ k → up2 X 194 k v 194 k' = X 194 k' := fun X k k' v q => by
    unfold up2
    rw [if_neg (fun z => q z.2)]
  rw [o1, o1, o1, hw, w_walkerAt _ w 5 (show (5 : Int32) = nI 5 from rfl)]
  simp only [Option.bind_some, asI_I]
  rw [ld194 h _ (show 17 + 96 * w + 5 < 1853 by omega), Option.bind_some, st194 h _ (show 17 + 96 * w + 5 < 1853 by omega), Option.bind_some]
  rw [o2 _ _ _ _ (show 17 + 96 * w + 5 ≠ 17 + 96 * w + (18 + 3 * m) + 2 by omega), o2 _ _ _ _ (show 17 + 96 * w + 5 ≠ 17 + 96 * w + (18 + 3 * m) + 1 by omega), o2 _ _ _ _ (show 17 + 96 * w + 5 ≠ 17 + 96 * w + (18 + 3 * m) by omega), hm, nI_1, o2 _ _ _ _ (show 701 + 9 * e + 4 ≠ 17 + 96 * w + (18 + 3 * m) + 1 by omega), o2 _ _ _ _ (show 701 + 9 * e + 4 ≠ 17 + 96 * w + (18 + 3 * m) by omega), o2 _ _ _ _ (show 701 + 9 * e + 6 ≠ 17 + 96 * w + (18 + 3 * m) by omega)]
  rfl

/-! Chance: what is drawn, on both sides. -/
def nxt (v : Nat) : Nat := (1103515245 * v + 12345) % 2147483648
theorem nxt_lt (v : Nat) : nxt v < 2 ^ 31 := Nat.mod_lt _ (by decide)
theorem lN_low (a : Nat) : lN a &&& 2147483647 = lN (a % 2147483648) := by
  apply Int64.toBitVec_inj.1
  show BitVec.ofNat 64 a &&& 2147483647#64 = BitVec.ofNat 64 (a % 2147483648)
  apply BitVec.eq_of_toNat_eq
  rw [BitVec.toNat_and, BitVec.toNat_ofNat, BitVec.toNat_ofNat, BitVec.toNat_ofNat, show (2147483647 % 2 ^ 64 : Nat) = 2 ^ 31 - 1 by decide, Nat.and_two_pow_sub_one_eq_mod]
  omega
theorem drw_q {v : Nat} : drw (lN v) = lN (nxt v) := by
  unfold drw nxt
  rw [show (1103515245 : Int64) = lN 1103515245 from rfl, show (12345 : Int64) = lN 12345 from rfl, lN_mul, lN_add, lN_low]
theorem drQ_q {w m : Nat} (hw : w < 2 ^ 31) (m0 : 0 < m) (hm : m < 2 ^ 31) : drQ (lN w) (nI m) = nI (w / 64 % m) := by
  unfold drQ
  rw [if_pos (show (0 : Int32) < nI m from nI_lt (a := 0) m0 hm), nI_l hm, show (64 : Int64) = lN 64 from rfl, pk_lDiv (by omega) (by decide) (by decide), pk_lRem (by omega) m0 (by omega), lN_i]
theorem w_drawOf {J : MJ} (h : RefL J) (I : MI) {v m : Nat} (hv : v < 2 ^ 31) (hj : J.1 188 31 = lN v) (m0 : 0 < m) (hm : m < 2 ^ 31) : M_X10_drawOf [mR (some 188), mI (nI m)] (I, J) = some (some (mI (nI (nxt v / 64 % m))), (I, (up2 J.1 188 31 (lN (nxt v)), J.2))) := by
  have w : ∀ y, wL (I, J) 10 188 31 y = some (I, (up2 J.1 188 31 y, J.2)) := fun y => if_pos h.k
  have f : ∀ y, fL (I, ((up2 J.1 188 31 y, J.2) : MJ)) 10 188 31 = some y := fun y => by
    rw [fL_ok 31 (show (jS (up2 J.1 188 31 y, J.2) 188).1 = 10 from h.k)]
    simp [up2]
  have e : ((1103515245 * lN v) + 12345 : Int64) - ((1103515245 * lN v) + 12345) / 2147483648 * 2147483648 = lN (nxt v) := by
    rw [show (1103515245 : Int64) = lN 1103515245 from rfl, show (12345 : Int64) = lN 12345 from rfl, lN_mul, lN_add, show (2147483648 : Int64) = lN 2147483648 from rfl, pk_lRem (by omega) (by decide) (by decide)]
    rfl
  have nm : ¬ Int32.toInt64 (nI m) = 0 := by
    rw [nI_l hm, show (0 : Int64) = lN 0 from rfl]
    exact fun z => by have := (lN_eq hm (by decide)).mp z; omega
  have nx := nxt_lt v
  have e2 : Int64.toInt32 ((lN (nxt v) / 64) - (lN (nxt v) / 64) / (Int32.toInt64 (nI m)) * (Int32.toInt64 (nI m))) = nI (nxt v / 64 % m) := by
    rw [nI_l hm, show (64 : Int64) = lN 64 from rfl, pk_lDiv (by omega) (by decide) (by decide), pk_lRem (by omega) m0 (by omega), lN_i]
  rw [E_X10_drawOf, fL_ok 31 h.k, Option.bind_some, hj, if_neg (by decide), e, w, Option.bind_some, f, Option.bind_some, if_neg (by decide), if_neg nm, e2]
/-- a node of a volume that is mounted -/
def mtB (U : NodV) (V : MemV) (k : Nat) : Bool := decide (¬ U 4 k = 0 ∧ ¬ V 9 (ix (U 1 k)) = -1)
theorem rea_q {U : NodV} {V : MemV} {n vol : Nat} (hN : NodI U n vol) (O : OneV) {k : Nat} (hk : k < n) : q_X8_isReachable O U V (nI k) = if mtB U V k = true then 1 else 0 := by
  have v3 := hN.v3
  obtain ⟨v, v1, v2⟩ := hN.vol k hk
  have im : q_X1_isMounted V (nI v) = if V 9 v = -1 then 0 else 1 := by
    unfold q_X1_isMounted
    rw [if_neg (nI_pos (by omega)), if_neg (show ¬ (3 : Int32) ≤ nI v from nI_ge (b := 3) (by omega) (by decide)), ix_nI (by omega)]
  unfold q_X8_isReachable mtB
  rw [hN.ex hk, vol_q hN hk, v2, im, ix_nI (by omega)]
  by_cases a : U 4 k = 0
  · simp [a]
  · by_cases b : V 9 v = -1
    · simp [a, b]
    · simp [a, b]
theorem rea_no {U : NodV} {V : MemV} {n vol : Nat} (hN : NodI U n vol) (O : OneV) {k : Nat} (hk : n ≤ k) (h60 : k < 60) : q_X8_isReachable O U V (nI k) = 0 := by
  unfold q_X8_isReachable
  rw [if_pos]
  unfold q_X2_exists
  rw [if_neg (nI_pos (by omega)), if_neg (show ¬ (60 : Int32) ≤ nI k from nI_ge (b := 60) h60 (by decide)), hN.ev, if_pos (nI_le hk (by omega))]
theorem w_mnt {U : NodV} {V : MemV} {H : OneV} {W : WkV} {n vol : Nat} (hN : NodI U n vol) {J : MJ} (h : RefL J) (Y : MI) (r : Rel none U V H W (Y 194) n) {k : Nat} (hk : k < n) : M_X10_isMountedNode [mR (some 188), mI (nI k)] (Y, J) = some (some (mI (if mtB U V k = true then 1 else 0)), (Y, J)) := by
  have v3 := hN.v3
  have n60 := hN.n60
  obtain ⟨v, v1, v2⟩ := hN.vol k hk
  have nd := r.B.nd k hk
  have e5 : (5 : Int32) + nI v = nI (5 + v) := nI_add 5 v
  unfold mtB
  rw [E_X10_isMountedNode]
  simp only [h.kt, if_true, w_nodeHas h Y 4 (show (4 : Int32) = nI 4 from rfl) (show k < 60 by omega) (by decide), w_nodeHas h Y 0 (show (0 : Int32) = nI 0 from rfl) (show k < 60 by omega) (by decide), Option.bind_some, asI_I, nd.2.2.2.1, nd.1, v2, h.f18, h.ldD _ e5 (show 5 + v < 1853 by omega), r.B.rt v (by omega), ix_nI (show v < 2 ^ 31 by omega)]
  by_cases a : U 4 k = 0
  · simp [a]
  · by_cases b : V 9 v = -1
    · simp [a, b]
    · simp [a, b]
theorem mn_q {U : NodV} {V : MemV} {n vol : Nat} (hN : NodI U n vol) (O : OneV) : q_X8_mountedNodes O U V = nI (cnt (mtB U V) 0 n) := by
  have n60 := hN.n60
  unfold q_X8_mountedNodes ql_X8_mountedNodes c_X8_mountedNodes
  rw [show (60 : Nat) = n + (60 - n) by omega, cnt_add, cnt_zero (n := 60 - n) (fun k h1 h2 => by rw [rea_no hN O (by omega) (by omega), if_pos rfl]), Nat.add_zero]
  congr 1
  exact cnt_cong (fun k _ hk => by
    rw [rea_q hN O (by omega)]
    by_cases z : mtB U V k = true
    · rw [if_pos z, if_neg i10, z]
    · rw [if_neg z, if_pos rfl]
      simpa using z)
/-- at least the root is mounted -/
theorem mt_pos {U : NodV} {V : MemV} {H : OneV} {W : WkV} {n vol t T : Nat} {x : Nat → Nat} (i : Inv U V H W n vol t T x) : 0 < cnt (mtB U V) 0 n := by
  obtain ⟨r, r1, r2, r3, r4, r5⟩ := i.N.rts 0 (by have := i.N.v3; omega)
  refine cnt_pos (i := r) (Nat.zero_le _) (by omega) ?_
  unfold mtB
  rw [r5, r3, ix_nI (by omega)]
  obtain ⟨e, e1, e2⟩ := i.M.r0
  have : ¬ V 9 0 = -1 := by rw [e2]; exact nI_m1 (by omega)
  simp [this]
theorem many_loop {U : NodV} {V : MemV} {H : OneV} {W : WkV} {n vol : Nat} (hN : NodI U n vol) {J : MJ} (h : RefL J) (Y : MI) (r : Rel none U V H W (Y 194) n) : Ev T_X10_looksByDraw 4 [some (mR (some 188)), some (mI 0), some (mI 0), none, none] [] (Y, J) = (M_X10_drawOf [mR (some 188), mI (nI (cnt (mtB U V) 0 n))] (Y, J)).bind fun u4 => (asI u4.1).bind fun y5 => Ev T_X10_looksByDraw 39 [some (mR (some 188)), none, some (mI y5), some (mI 0), none] [] u4.2 := by
  have n60 := hN.n60
  have ev : Y 194 4 = nI n := r.B.ev.trans hN.ev
  have s1 := loop_cnt (fun k c => Ev T_X10_looksByDraw 4 [some (mR (some 188)), some (mI (nI c)), some (mI (nI k)), none, none] [] (Y, J)) (mtB U V) n (fun k c hk => by
    try dsimp only
    rw [E_X10_looksByDraw_4]
    simp only [h.f18, Option.bind_some, h.ldD _ (show (4 : Int32) = nI 4 from rfl) (show 4 < 1853 by decide), ev, if_neg (nI_ge hk (by omega)), h.kt, if_true, w_mnt hN h Y r hk, asI_I, w_flag, nI_1]
    by_cases z : mtB U V k = true
    · rw [if_pos z, if_neg i10, if_pos z, nI_1]
    · rw [if_neg z, if_pos rfl, if_neg z, Int32.add_zero]
      try rfl) n 0 0 (by omega)
  try dsimp only at s1
  rw [show (nI 0) = 0 from rfl, Nat.zero_add] at s1
  rw [s1, E_X10_looksByDraw_4]
  simp only [h.f18, Option.bind_some, h.ldD _ (show (4 : Int32) = nI 4 from rfl) (show 4 < 1853 by decide), ev, if_pos (Int32.le_refl (nI n)), h.kt, if_true]
/-- the node that is drawn -/
theorem pick_loop {U : NodV} {V : MemV} {H : OneV} {W : WkV} {n vol : Nat} (hN : NodI U n vol) {J : MJ} (h : RefL J) (Y : MI) (r : Rel none U V H W (Y 194) n) (O : OneV) : ∀ (nn k left : Nat), k + nn = n → left < cnt (mtB U V) k nn → ∃ k', k' < n ∧ mtB U V k' = true ∧ lp_X8_mountedNode_4 O U V (nn + (60 - n)) k (nI left) = nI k' ∧ Ev T_X10_looksByDraw 39 [some (mR (some 188)), none, some (mI (nI left)), some (mI (nI k)), none] [] (Y, J) = Ev T_X10_looksByDraw 39 [some (mR (some 188)), none, some (mI (nI 0)), some (mI (nI k')), none] [] (Y, J) := by
  have n60 := hN.n60
  intro nn
  induction nn with
  | zero => intro k left hk hl; exact absurd hl (Nat.not_lt_zero _)
  | succ nn ih =>
    intro k left hk hl
    have e : cnt (mtB U V) k (nn + 1) = (if mtB U V k = true then 1 else 0) + cnt (mtB U V) (k + 1) nn := rfl
    rw [e] at hl
    have cl := cnt_le (mtB U V) nn (k + 1)
    have st : lp_X8_mountedNode_4 O U V (nn + 1 + (60 - n)) k (nI left) = if (q_X8_isReachable O U V (nI k)) = 0 then lp_X8_mountedNode_4 O U V (nn + (60 - n)) (k + 1) (nI left) else (if nI left = 0 then (nI k) else lp_X8_mountedNode_4 O U V (nn + (60 - n)) (k + 1) (nI left + (-1))) := by
      rw [show nn + 1 + (60 - n) = (nn + (60 - n)) + 1 by omega]
      rfl
    rw [st, rea_q hN O (by omega)]
    by_cases z : mtB U V k = true
    · rw [if_pos z] at hl
      rw [if_pos z, if_neg i10]
      by_cases l0 : left = 0
      · subst l0
        exact ⟨k, by omega, z, by rw [if_pos (show nI 0 = 0 from rfl)], rfl⟩
      · have ln : ¬ nI left = 0 := fun q => l0 ((nI_eq (by omega) (by omega)).mp (q.trans nI_0.symm))
        have lm : nI left + (-1) = nI (left - 1) := by
          have : nI left = nI (left - 1) + 1 := by rw [nI_1, show left - 1 + 1 = left by omega]
          rw [this, Int32.add_assoc, show (1 : Int32) + (-1) = 0 by decide, Int32.add_zero]
        have ls : nI left - 1 = nI (left - 1) := nI_sub (b := 1) (by omega)
        rw [if_neg ln, lm]
        obtain ⟨k', a1, a2, a3, a4⟩ := ih (k + 1) (left - 1) (by omega) (by omega)
        refine ⟨k', a1, a2, a3, ?_⟩
        rw [← a4, E_X10_looksByDraw_39]
        simp only [h.kt, if_true, w_mnt hN h Y r (show k < n by omega), Option.bind_some, asI_I, if_pos z, if_neg i10, if_neg (nI_nle (show 0 < left by omega) (by omega)), w_flag, ls, nI_1]
    · rw [if_neg z] at hl
      rw [if_neg z, if_pos rfl]
      obtain ⟨k', a1, a2, a3, a4⟩ := ih (k + 1) left (by omega) (by omega)
      refine ⟨k', a1, a2, a3, ?_⟩
      rw [← a4, E_X10_looksByDraw_39]
      simp only [h.kt, if_true, w_mnt hN h Y r (show k < n by omega), Option.bind_some, asI_I, if_neg z, w_flag, Int32.sub_zero, nI_1]
/-- the names are laid out -/
theorem lays_end {J : MJ} (h : RefL J) (Y : MI) {l : Nat} (l60 : l ≤ 60) : ∃ Y', Ev T_X10_laysPath 81 [some (mR (some 188)), none, some (mI (nI l)), none, some (mI 0)] [] (Y, J) = some (none, (Y', J)) ∧ (∀ x, x ≠ 188 → x ≠ 192 → Y' x = Y x) ∧ (∀ k, k ≠ 15 → Y' 188 k = Y 188 k) ∧ Y' 188 15 = nI l ∧ ∀ j, j < l → Y' 192 j = Y 198 (l - 1 - j) := by
  have s1 := loop_all (fun k S => Ev T_X10_laysPath 81 [some (mR (some 188)), none, some (mI (nI l)), none, some (mI (nI k))] [] (rw1 Y 192 S, J)) (fun k S => sD S (0 + k) (Y 198 (l - 1 - k))) l (Y 192) (fun k S hk => by
    try dsimp only
    have e : nI l - 1 - nI k = nI (l - 1 - k) := by
      rw [show (1 : Int32) = nI 1 from rfl, nI_sub (by omega), nI_sub (by omega)]
    rw [E_X10_laysPath_81, if_neg (nI_ge hk (by omega))]
    simp only [h.f14, h.f26, Option.bind_some, ldx h.s26 (show l - 1 - k < 64 by omega) (by decide) e, stx h.s14 (show k < 64 by omega) (by decide) rfl, rw1_st, rw1_n Y S (show (198 : Nat) ≠ 192 by decide), nI_1, Nat.zero_add])
  try dsimp only at s1
  rw [show (nI 0) = 0 from rfl, rw1_id] at s1
  refine ⟨up2 (rw1 Y 192 (itr (fun k S => sD S (0 + k) (Y 198 (l - 1 - k))) 0 l (Y 192))) 188 15 (nI l), ?_, fun x a b => ?_, fun k a => ?_, up2_s _ _ _ _, fun j hj => ?_⟩
  · rw [s1, E_X10_laysPath_81, if_pos (Int32.le_refl _)]
    simp only [h.wi, Option.bind_some]
  · rw [up2_o _ _ _ a, rw1_n _ _ b]
  · rw [up2_k _ _ _ a, rw1_n _ _ (by decide)]
  · rw [up2_o _ _ _ (by decide), rw1_s, itr_sD 0 (fun k => Y 198 (l - 1 - k)), if_pos (by omega)]
    rfl

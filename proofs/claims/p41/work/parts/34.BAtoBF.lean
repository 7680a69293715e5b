section
/-! Chance: what is drawn, on both sides. -/
def nxt (v : Nat) : Nat := (1103515245 * v + 12345) % 2147483648
theorem nxt_lt (v : Nat) : nxt v < 2 ^ 31 := Nat.mod_lt _ (by decide)
theorem lN_low (a : Nat) : lN a &&& 2147483647 = lN (a % 2147483648) := by
  apply Int64.toBitVec_inj.1
  show BitVec.ofNat 64 a &&& 2147483647#64 = BitVec.ofNat 64 (a % 2147483648)
  apply BitVec.eq_of_toNat_eq
  rw [BitVec.toNat_and, BitVec.toNat_ofNat, BitVec.toNat_ofNat, BitVec.toNat_ofNat, show (2147483647 % 2 ^ 64 : Nat) = 2 ^ 31 - 1 by decide, Nat.and_two_pow_sub_one_eq_mod]
  omega
theorem drw_q {v : Nat} : drw (lN v) = lN (nxt v) := by
  unfold drw nxt
  rw [show (1103515245 : Int64) = lN 1103515245 from rfl, show (12345 : Int64) = lN 12345 from rfl, lN_mul, lN_add, lN_low]
theorem drQ_q {w m : Nat} (hw : w < 2 ^ 31) (m0 : 0 < m) (hm : m < 2 ^ 31) : drQ (lN w) (nI m) = nI (w / 64 % m) := by
  unfold drQ
  rw [if_pos (show (0 : Int32) < nI m from nI_lt (a := 0) m0 hm), nI_l hm, show (64 : Int64) = lN 64 from rfl, pk_lDiv (by omega) (by decide) (by decide), pk_lRem (by omega) m0 (by omega), lN_i]
theorem w_drawOf {J : MJ} (h : RefL J) (I : MI) {v m : Nat} (hv : v < 2 ^ 31) (hj : J.1 188 31 = lN v) (m0 : 0 < m) (hm : m < 2 ^ 31) : M_X10_drawOf [mR (some 188), mI (nI m)] (I, J) = some (some (mI (nI (nxt v / 64 % m))), (I, (up2 J.1 188 31 (lN (nxt v)), J.2))) := by
  have w : ∀ y, wL (I, J) 10 188 31 y = some (I, (up2 J.1 188 31 y, J.2)) := fun y => if_pos h.k
  have f : ∀ y, fL (I, ((up2 J.1 188 31 y, J.2) : MJ)) 10 188 31 = some y := fun y => by
    rw [fL_ok 31 (show (jS (up2 J.1 188 31 y, J.2) 188).1 = 10 from h.k)]
    simp [up2]
  have e : ((1103515245 * lN v) + 12345 : Int64) - ((1103515245 * lN v) + 12345) / 2147483648 * 2147483648 = lN (nxt v) := by
    rw [show (1103515245 : Int64) = lN 1103515245 from rfl, show (12345 : Int64) = lN 12345 from rfl, lN_mul, lN_add, show (2147483648 : Int64) = lN 2147483648 from rfl, pk_lRem (by omega) (by decide) (by decide)]
    rfl
  have nm : ¬ Int32.toInt64 (nI m) = 0 := by
    rw [nI_l hm, show (0 : Int64) = lN 0 from rfl]
    exact fun z => by have := (lN_eq hm (by decide)).mp z; omega
  have nx := nxt_lt v
  have e2 : Int64.toInt32 ((lN (nxt v) / 64) - (lN (nxt v) / 64) / (Int32.toInt64 (nI m)) * (Int32.toInt64 (nI m))) = nI (nxt v / 64 % m) := by
    rw [nI_l hm, show (64 : Int64) = lN 64 from rfl, pk_lDiv (by omega) (by decide) (by decide), pk_lRem (by omega) m0 (by omega), lN_i]
  rw [E_X10_drawOf, fL_ok 31 h.k, Option.bind_some, hj, if_neg (by decide), e, w, Option.bind_some, f, Option.bind_some, if_neg (by decide), if_neg nm, e2]
/-- a node of a volume that is mounted -/
def mtB (U : NodV) (V : MemV) (k : Nat) : Bool := decide (¬ U 4 k = 0 ∧ ¬ V 9 (ix (U 1 k)) = -1)
theorem rea_q {U : NodV} {V : MemV} {n vol : Nat} (hN : NodI U n vol) (O : OneV) {k : Nat} (hk : k < n) : q_X8_isReachable O U V (nI k) = if mtB U V k = true then 1 else 0 := by
  have v3 := hN.v3
  obtain ⟨v, v1, v2⟩ := hN.vol k hk
  have im : q_X1_isMounted V (nI v) = if V 9 v = -1 then 0 else 1 := by
    unfold q_X1_isMounted
    rw [if_neg (nI_pos (by omega)), if_neg (show ¬ (3 : Int32) ≤ nI v from nI_ge (b := 3) (by omega) (by decide)), ix_nI (by omega)]
  unfold q_X8_isReachable mtB
  rw [hN.ex hk, vol_q hN hk, v2, im, ix_nI (by omega)]
  by_cases a : U 4 k = 0
  · simp [a]
  · by_cases b : V 9 v = -1
    · simp [a, b]
    · simp [a, b]
theorem rea_no {U : NodV} {V : MemV} {n vol : Nat} (hN : NodI U n vol) (O : OneV) {k : Nat} (hk : n ≤ k) (h60 : k < 60) : q_X8_isReachable O U V (nI k) = 0 := by
  unfold q_X8_isReachable
  rw [if_pos]
  unfold q_X2_exists
  rw [if_neg (nI_pos (by omega)), if_neg (show ¬ (60 : Int32) ≤ nI k from nI_ge (b := 60) h60 (by decide)), hN.ev, if_pos (nI_le hk (by omega))]
theorem w_mnt {U : NodV} {V : MemV} {H : OneV} {W : WkV} {n vol : Nat} (hN : NodI U n vol) {J : MJ} (h : RefL J) (Y : MI) (r : Rel none U V H W (Y 194) n) {k : Nat} (hk : k < n) : M_X10_isMountedNode [mR (some 188), mI (nI k)] (Y, J) = some (some (mI (if mtB U V k = true then 1 else 0)), (Y, J)) := by
  have v3 := hN.v3
  have n60 := hN.n60
  obtain ⟨v, v1, v2⟩ := hN.vol k hk
  have nd := r.B.nd k hk
  have e5 : (5 : Int32) + nI v = nI (5 + v) := nI_add 5 v
  unfold mtB
  rw [E_X10_isMountedNode]
  simp only [h.kt, if_true, w_nodeHas h Y 4 (show (4 : Int32) = nI 4 from rfl) (show k < 60 by omega) (by decide), w_nodeHas h Y 0 (show (0 : Int32) = nI 0 from rfl) (show k < 60 by omega) (by decide), Option.bind_some, asI_I, nd.2.2.2.1, nd.1, v2, h.f18, h.ldD _ e5 (show 5 + v < 1853 by omega), r.B.rt v (by omega), ix_nI (show v < 2 ^ 31 by omega)]
  by_cases a : U 4 k = 0
  · simp [a]
  · by_cases b : V 9 v = -1
    · simp [a, b]
    · simp [a, b]
theorem mn_q {U : NodV} {V : MemV} {n vol : Nat} (hN : NodI U n vol) (O : OneV) : q_X8_mountedNodes O U V = nI (cnt (mtB U V) 0 n) := by
  have n60 := hN.n60
  unfold q_X8_mountedNodes ql_X8_mountedNodes c_X8_mountedNodes
  rw [show (60 : Nat) = n + (60 - n) by omega, cnt_add, cnt_zero (n := 60 - n) (fun k h1 h2 => by rw [rea_no hN O (by omega) (by omega), if_pos rfl]), Nat.add_zero]
  congr 1
  exact cnt_cong (fun k _ hk => by
    rw [rea_q hN O (by omega)]
    by_cases z : mtB U V k = true
    · rw [if_pos z, if_neg i10, z]
    · rw [if_neg z, if_pos rfl]
      simpa using z)
/-- at least the root is mounted -/
theorem mt_pos {U : NodV} {V : MemV} {H : OneV} {W : WkV} {n vol t T : Nat} {x : Nat → Nat} (i : Inv U V H W n vol t T x) : 0 < cnt (mtB U V) 0 n := by
  obtain ⟨r, r1, r2, r3, r4, r5⟩ := i.N.rts 0 (by have := i.N.v3; omega)
  refine cnt_pos (i := r) (Nat.zero_le _) (by omega) ?_
  unfold mtB
  rw [r5, r3, ix_nI (by omega)]
  obtain ⟨e, e1, e2⟩ := i.M.r0
  have : ¬ V 9 0 = -1 := by rw [e2]; exact nI_m1 (by omega)
  simp [this]
theorem many_loop {U : NodV} {V : MemV} {H : OneV} {W : WkV} {n vol : Nat} (hN : NodI U n vol) {J : MJ} (h : RefL J) (Y : MI) (r : Rel none U V H W (Y 194) n) : Ev T_X10_looksByDraw 4 [some (mR (some 188)), some (mI 0), some (mI 0), none, none] [] (Y, J) = (M_X10_drawOf [mR (some 188), mI (nI (cnt (mtB U V) 0 n))] (Y, J)).bind fun u4 => (asI u4.1).bind fun y5 => Ev T_X10_looksByDraw 39 [some (mR (some 188)), none, some (mI y5), some (mI 0), none] [] u4.2 := by
  have n60 := hN.n60
  have ev : Y 194 4 = nI n := r.B.ev.trans hN.ev
  have s1 := loop_cnt (fun k c => Ev T_X10_looksByDraw 4 [some (mR (some 188)), some (mI (nI c)), some (mI (nI k)), none, none] [] (Y, J)) (mtB U V) n (fun k c hk => by
    try dsimp only
    rw [E_X10_looksByDraw_4]
    simp only [h.f18, Option.bind_some, h.ldD _ (show (4 : Int32) = nI 4 from rfl) (show 4 < 1853 by decide), ev, if_neg (nI_ge hk (by omega)), h.kt, if_true, w_mnt hN h Y r hk, asI_I, w_flag, nI_1]
    by_cases z : mtB U V k = true
    · rw [if_pos z, if_neg i10, if_pos z, nI_1]
    · rw [if_neg z, if_pos rfl, if_neg z, Int32.add_zero]
      try rfl) n 0 0 (by omega)
  try dsimp only at s1
  rw [show (nI 0) = 0 from rfl, Nat.zero_add] at s1
  rw [s1, E_X10_looksByDraw_4]
  simp only [h.f18, Option.bind_some, h.ldD _ (show (4 : Int32) = nI 4 from rfl) (show 4 < 1853 by decide), ev, if_pos (Int32.le_refl (nI n)), h.kt, if_true]
/-- the node that is drawn -/
theorem pick_loop {U : NodV} {V : MemV} {H : OneV} {W : WkV} {n vol : Nat} (hN : NodI U n vol) {J : MJ} (h : RefL J) (Y : MI) (r : Rel none U V H W (Y 194) n) (O : OneV) : ∀ (nn k left : Nat), k + nn = n → left < cnt (mtB U V) k nn → ∃ k', k' < n ∧ mtB U V k' = true ∧ lp_X8_mountedNode_4 O U V (nn + (60 - n)) k (nI left) = nI k' ∧ Ev T_X10_looksByDraw 39 [some (mR (some 188)), none, some (mI (nI left)), some (mI (nI k)), none] [] (Y, J) = Ev T_X10_looksByDraw 39 [some (mR (some 188)), none, some (mI (nI 0)), some (mI (nI k')), none] [] (Y, J) := by
  have n60 := hN.n60
  intro nn
  induction nn with
  | zero => intro k left hk hl; exact absurd hl (Nat.not_lt_zero _)
  | succ nn ih =>
    intro k left hk hl
    have e : cnt (mtB U V) k (nn + 1) = (if mtB U V k = true then 1 else 0) + cnt (mtB U V) (k + 1) nn := rfl
    rw [e] at hl
    have cl := cnt_le (mtB U V) nn (k + 1)
    have st : lp_X8_mountedNode_4 O U V (nn + 1 + (60 - n)) k (nI left) = if (q_X8_isReachable O U V (nI k)) = 0 then lp_X8_mountedNode_4 O U V (nn + (60 - n)) (k + 1) (nI left) else (if nI left = 0 then (nI k) else lp_X8_mountedNode_4 O U V (nn + (60 - n)) (k + 1) (nI left + (-1))) := by
      rw [show nn + 1 + (60 - n) = (nn + (60 - n)) + 1 by omega]
      rfl
    rw [st, rea_q hN O (by omega)]
    by_cases z : mtB U V k = true
    · rw [if_pos z] at hl
      rw [if_pos z, if_neg i10]
      by_cases l0 : left = 0
      · subst l0
        exact ⟨k, by omega, z, by rw [if_pos (show nI 0 = 0 from rfl)], rfl⟩
      · have ln : ¬ nI left = 0 := fun q => l0 ((nI_eq (by omega) (by omega)).mp (q.trans nI_0.symm))
        have lm : nI left + (-1) = nI (left - 1) := by
          have : nI left = nI (left - 1) + 1 := by rw [nI_1, show left - 1 + 1 = left by omega]
          rw [this, Int32.add_assoc, show (1 : Int32) + (-1) = 0 by decide, Int32.add_zero]
        have ls : nI left - 1 = nI (left - 1) := nI_sub (b := 1) (by omega)
        rw [if_neg ln, lm]
        obtain ⟨k', a1, a2, a3, a4⟩ := ih (k + 1) (left - 1) (by omega) (by omega)
        refine ⟨k', a1, a2, a3, ?_⟩
        rw [← a4, E_X10_looksByDraw_39]
        simp only [h.kt, if_true, w_mnt hN h Y r (show k < n by omega), Option.bind_some, asI_I, if_pos z, if_neg i10, if_neg (nI_nle (show 0 < left by omega) (by omega)), w_flag, ls, nI_1]
    · rw [if_neg z] at hl
      rw [if_neg z, if_pos rfl]
      obtain ⟨k', a1, a2, a3, a4⟩ := ih (k + 1) left (by omega) (by omega)
      refine ⟨k', a1, a2, a3, ?_⟩
      rw [← a4, E_X10_looksByDraw_39]
      simp only [h.kt, if_true, w_mnt hN h Y r (show k < n by omega), Option.bind_some, asI_I, if_neg z, w_flag, Int32.sub_zero, nI_1]
/-- the names are laid out -/
theorem lays_end {J : MJ} (h : RefL J) (Y : MI) {l : Nat} (l60 : l ≤ 60) : ∃ Y', Ev T_X10_laysPath 81 [some (mR (some 188)), none, some (mI (nI l)), none, some (mI 0)] [] (Y, J) = some (none, (Y', J)) ∧ (∀ x, x ≠ 188 → x ≠ 192 → Y' x = Y x) ∧ (∀ k, k ≠ 15 → Y' 188 k = Y 188 k) ∧ Y' 188 15 = nI l ∧ ∀ j, j < l → Y' 192 j = Y 198 (l - 1 - j) := by
  have s1 := loop_all (fun k S => Ev T_X10_laysPath 81 [some (mR (some 188)), none, some (mI (nI l)), none, some (mI (nI k))] [] (rw1 Y 192 S, J)) (fun k S => sD S (0 + k) (Y 198 (l - 1 - k))) l (Y 192) (fun k S hk => by
    try dsimp only
    have e : nI l - 1 - nI k = nI (l - 1 - k) := by
      rw [show (1 : Int32) = nI 1 from rfl, nI_sub (by omega), nI_sub (by omega)]
    rw [E_X10_laysPath_81, if_neg (nI_ge hk (by omega))]
    simp only [h.f14, h.f26, Option.bind_some, ldx h.s26 (show l - 1 - k < 64 by omega) (by decide) e, stx h.s14 (show k < 64 by omega) (by decide) rfl, rw1_st, rw1_n Y S (show (198 : Nat) ≠ 192 by decide), nI_1, Nat.zero_add])
  try dsimp only at s1
  rw [show (nI 0) = 0 from rfl, rw1_id] at s1
  refine ⟨up2 (rw1 Y 192 (itr (fun k S => sD S (0 + k) (Y 198 (l - 1 - k))) 0 l (Y 192))) 188 15 (nI l), ?_, fun x a b => ?_, fun k a => ?_, up2_s _ _ _ _, fun j hj => ?_⟩
  · rw [s1, E_X10_laysPath_81, if_pos (Int32.le_refl _)]
    simp only [h.wi, Option.bind_some]
  · rw [up2_o _ _ _ a, rw1_n _ _ b]
  · rw [up2_k _ _ _ a, rw1_n _ _ (by decide)]
  · rw [up2_o _ _ _ (by decide), rw1_s, itr_sD 0 (fun k => Y 198 (l - 1 - k)), if_pos (by omega)]
    rfl
end
section
/-! Looks by chance, on both sides. -/
theorem up2_id {α : Type} (f : Nat → Nat → α) (a k : Nat) : up2 f a k (f a k) = f := by
  funext x y
  unfold up2
  by_cases h : x = a ∧ y = k
  · rw [if_pos h, h.1, h.2]
  · rw [if_neg h]
theorem up2_up2 {α : Type} (f : Nat → Nat → α) (a k : Nat) (v w : α) : up2 (up2 f a k v) a k w = up2 f a k w := by
  funext x y
  unfold up2
  by_cases h : x = a ∧ y = k
  · rw [if_pos h, if_pos h]
  · rw [if_neg h, if_neg h, if_neg h]
theorem look1 {I Y : MI} {J J2 : MJ} {H : OneV} {W : WkV} {nn vol t T v m : Nat} (i : Inv (vw 6 I 1) (vw 12 I 17) H W nn vol t T (fun _ => 0)) (C : CntI (vw 12 I 17)) (hm : cnt (mtB (vw 6 I 1) (vw 12 I 17)) 0 nn = m) (hv : v < 2 ^ 31) (hj : J.1 0 15 = lN v) (tT : t + 121 ≤ T) (h : RefL J2) (r : Rel none (vw 6 I 1) (vw 12 I 17) H W (Y 194) nn) (y20 : Y 188 20 = -1) (y21 : Y 188 21 = -1) (hj2 : J2.1 188 31 = lN v) : ∃ (R : RouV) (V' : MemV) (Y' : MI) (t' : Nat), chI I (chN I J (nI m)) = pt (pt I 183 R) 17 V' ∧ M_X10_looksByDraw [mR (some 188)] (Y, J2) = some (none, (Y', (up2 J2.1 188 31 (lN (nxt v)), J2.2))) ∧ (∀ x, x ≠ 188 → x ≠ 192 → x ≠ 194 → x ≠ 195 → x ≠ 198 → Y' x = Y x) ∧ (∀ k, k ≠ 15 → k ≠ 22 → Y' 188 k = Y 188 k) ∧ Rel none (vw 6 I 1) V' H W (Y' 194) nn ∧ Inv (vw 6 I 1) V' H W nn vol t' T (fun _ => 0) ∧ CntI V' ∧ t' ≤ t + 121 ∧ V' 9 = vw 12 I 17 9 := by
  have hN := i.N
  have n60 := hN.n60
  have v3 := hN.v3
  have h' : RefL (up2 J2.1 188 31 (lN (nxt v)), J2.2) := h
  have m0 : 0 < m := by rw [← hm]; exact mt_pos i
  have m60 : m ≤ 60 := by rw [← hm]; exact Nat.le_trans (cnt_le _ _ _) n60
  have lt : nxt v / 64 % m < cnt (mtB (vw 6 I 1) (vw 12 I 17)) 0 nn := by rw [hm]; exact Nat.mod_lt _ m0
  obtain ⟨k', kn', mt, lp, ev⟩ := pick_loop hN h' Y r (vw 1 I 16) nn 0 (nxt v / 64 % m) (by omega) lt
  have cn : chN I J (nI m) = nI k' := by
    unfold chN
    rw [hj, drw_q, drQ_q (nxt_lt v) m0 (by omega)]
    rw [show nn + (60 - nn) = 60 by omega] at lp
    exact lp
  unfold mtB at mt
  simp only [decide_eq_true_eq] at mt
  obtain ⟨k4, k9⟩ := mt
  obtain ⟨v', vv, kv⟩ := hN.vol k' kn'
  rw [kv, ix_nI (by omega)] at k9
  obtain ⟨μ, m1, m2⟩ := ex_rank hN i.M
  have rk := rkc_le μ nn k'
  obtain ⟨l, P', N', g1, g2, g3, g4, g5⟩ := route_loop i m1 m2 h' Y r (vw 1 I 16) 61 k' 0 120 0 (gP_X4_clear 60 (vw 2 I 183)) (Y 198) v' kn' k4 kv (by omega) k9 (by omega) (by omega) (by omega) (by unfold gP_X4_clear; rw [uv_s]; rfl) (fun j hj => by omega)
  rw [nF_id] at g5
  obtain ⟨Y1, e1, e2, e3, e4, e5⟩ := lays_end h' (nF Y N') (l := l) g3
  obtain ⟨t1, t2⟩ := turn_q g2 g3
  have y194 : Y1 194 = Y 194 := by rw [e2 194 (by decide) (by decide), nF_o _ _ (by decide)]
  have y1k : ∀ k, k ≠ 15 → Y1 188 k = Y 188 k := fun k hk => by rw [e3 k hk, nF_o _ _ (by decide)]
  obtain ⟨D', G', c', how, t', w1, w2, w3, w4, w5⟩ := r.walks i C (fun e _ z => absurd rfl z) h' Y1 (by rw [y1k 20 (by decide), y20]; exact Or.inl ⟨rfl, fun _ => rfl⟩) (by rw [y1k 21 (by decide)]; exact y21) (Y1 195) (Y1 188 22) (s1 := 192) h'.s14 (by decide) (P := gP_X4_turnAround 60 P') (lp := l) (m := l) (L := 60) t1 (Nat.le_refl _) g3 (by decide) (by omega) (fun k hk => by
    rw [t2 k hk, e5 k hk, nF_N]
    exact Or.inl (g4 _ (by omega))) (gP_X4_turnAround 60 P' 0 1) (by rw [t1, ix_nI (by omega)]) (by omega)
  rw [← y194, rF_id] at w1
  refine ⟨gP_X4_turnAround 60 P', gV_X1_walk 60 (gP_X4_turnAround 60 P') (vw 6 I 1) (vw 12 I 17) (gP_X4_turnAround 60 P' 0 1), rF Y1 D' G' c', t', ?_, ?_, fun x a b c d e => ?_, fun k a b => ?_, ?_, w2.2.1, w2.2.2.1, by omega, w2.2.2.2.2.1⟩
  · rw [cn]
    have : gP_X8_routeTo 60 (vw 1 I 16) (vw 2 I 183) (vw 6 I 1) (vw 12 I 17) (nI k') = gP_X4_turnAround 60 P' := g1
    unfold chI
    rw [this]
  · rw [E_X10_looksByDraw, many_loop hN h Y r, hm, w_drawOf h Y hv hj2 m0 (by omega)]
    simp only [Option.bind_some, asI_I]
    rw [show (nI 0) = 0 from rfl] at ev g5
    rw [ev, E_X10_looksByDraw_39]
    have lp' : M_X10_laysPath [mR (some 188), mI (nI k')] (Y, ((up2 J2.1 188 31 (lN (nxt v)), J2.2) : MJ)) = some (none, (Y1, (up2 J2.1 188 31 (lN (nxt v)), J2.2))) := by
      rw [E_X10_laysPath, g5]
      exact e1
    have mt' : mtB (vw 6 I 1) (vw 12 I 17) k' = true := by
      unfold mtB
      simp only [decide_eq_true_eq]
      exact ⟨k4, by rw [kv, ix_nI (by omega)]; exact k9⟩
    simp only [h'.kt, if_true, w_mnt hN h' Y r kn', Option.bind_some, asI_I, if_pos mt', if_neg i10, if_pos (Int32.le_refl (0 : Int32)), lp', asV_n, h'.f14, h'.fi, e4, w1]
  · rw [rF_o _ _ _ _ a c d, e2 x a b, nF_o _ _ e]
  · rw [rF_k _ _ _ _ b, y1k k a]
  · rw [rF_D]; exact w2.1
theorem chance_sim {U : NodV} {O : OneV} {H : OneV} {W : WkV} {nn vol T m n : Nat} (n40 : n ≤ 40) (x2 : Int32) : ∀ (f k : Nat) (I Y : MI) (J J2 : MJ) (v t : Nat), k + f = n → vw 6 I 1 = U → vw 1 I 16 = O → Inv U (vw 12 I 17) H W nn vol t T (fun _ => 0) → CntI (vw 12 I 17) → cnt (mtB U (vw 12 I 17)) 0 nn = m → v < 2 ^ 31 → J.1 0 15 = lN v → t + 121 * f ≤ T → RefL J2 → Rel none U (vw 12 I 17) H W (Y 194) nn → Y 188 20 = -1 → Y 188 21 = -1 → J2.1 188 31 = lN v → ∃ (R : RouV) (V' : MemV) (Y' : MI) (t' v' : Nat), chS (nI m) f (I, J) = (pt (pt I 183 R) 17 V', (up2 J.1 0 15 (lN v'), J.2)) ∧ v' < 2 ^ 31 ∧ Ev T_X10_chance 38 [some (mR (some 188)), some (mI (nI n)), some (mI x2), some (mI (nI k))] [] (Y, J2) = some (some (mI (V' 0 13 - x2)), (Y', (up2 J2.1 188 31 (lN v'), J2.2))) ∧ (∀ x, x ≠ 188 → x ≠ 192 → x ≠ 194 → x ≠ 195 → x ≠ 198 → Y' x = Y x) ∧ (∀ k, k ≠ 15 → k ≠ 22 → Y' 188 k = Y 188 k) ∧ Rel none U V' H W (Y' 194) nn ∧ Inv U V' H W nn vol t' T (fun _ => 0) ∧ CntI V' := by
  intro f
  induction f with
  | zero =>
    intro k I Y J J2 v t hk hU hO i C hm hv hj tT h r y20 y21 hj2
    refine ⟨vw 2 I 183, vw 12 I 17, Y, t, v, ?_, hv, ?_, fun _ _ _ _ _ _ => rfl, fun _ _ _ => rfl, r, i, C⟩
    · show (I, J) = _
      rw [pt_vw, pt_vw, ← hj, up2_id]
    · have hk : k = n := by omega
      subst hk
      rw [E_X10_chance_38, if_pos (Int32.le_refl _)]
      simp only [h.f18, Option.bind_some, h.ldD _ (show (1 : Int32) = nI 1 from rfl) (show 1 < 1853 by decide), r.B.lo]
      rw [← hj2, up2_id]
  | succ f ih =>
    intro k I Y J J2 v t hk hU hO i C hm hv hj tT h r y20 y21 hj2
    subst hU hO
    obtain ⟨R1, V1, Y1, t1, a1, a2, a3, a4, a5, a6, a7, a8, a9⟩ := look1 (J := J) i C hm hv hj (by omega) h r y20 y21 hj2
    have wU : vw 6 (pt (pt I 183 R1) 17 V1) 1 = vw 6 I 1 := by rw [vw_out _ _ (by decide), vw_out _ _ (by decide)]
    have wO : vw 1 (pt (pt I 183 R1) 17 V1) 16 = vw 1 I 16 := by rw [vw_out _ _ (by decide), vw_out _ _ (by decide)]
    have wV : vw 12 (pt (pt I 183 R1) 17 V1) 17 = V1 := vw_pt _ _ _
    have hm1 : cnt (mtB (vw 6 I 1) V1) 0 nn = m := by
      rw [← hm]
      exact cnt_cong (fun k _ _ => by unfold mtB; rw [a9])
    obtain ⟨R, V', Y', t', v', b1, b2, b3, b4, b5, b6, b7, b8⟩ := ih (k + 1) (pt (pt I 183 R1) 17 V1) Y1 (drJ J) (up2 J2.1 188 31 (lN (nxt v)), J2.2) (nxt v) t1 (by omega) wU wO (by rw [wV]; exact a6) (by rw [wV]; exact a7) (by rw [wV]; exact hm1) (nxt_lt v) (by
      show up2 J.1 0 15 (drw (J.1 0 15)) 0 15 = _
      rw [hj, drw_q]
      simp [up2]) (by omega) h (by rw [wV]; exact a5) (by rw [a4 20 (by decide) (by decide)]; exact y20) (by rw [a4 21 (by decide) (by decide)]; exact y21) (by
      show up2 J2.1 188 31 (lN (nxt v)) 188 31 = _
      simp [up2])
    refine ⟨R, V', Y', t', v', ?_, b2, ?_, fun x p1 p2 p3 p4 p5 => by rw [b4 x p1 p2 p3 p4 p5, a3 x p1 p2 p3 p4 p5], fun k p1 p2 => by rw [b5 k p1 p2, a4 k p1 p2], b6, b7, b8⟩
    · show chS (nI m) f (chI I (chN I J (nI m)), drJ J) = _
      rw [a1, b1, pt_comm (pt I 183 R1) V1 R (by decide), pt_pt, pt_pt, show (drJ J).1 = up2 J.1 0 15 (drw (J.1 0 15)) from rfl, up2_up2, show (drJ J).2 = J.2 from rfl]
    · rw [E_X10_chance_38, if_neg (nI_ge (show k < n by omega) (by omega))]
      simp only [h.kt, if_true, a2, Option.bind_some, asV_n, nI_1]
      rw [b3]
      show some (some (mI (V' 0 13 - x2)), (Y', (up2 (up2 J2.1 188 31 (lN (nxt v))) 188 31 (lN v'), J2.2))) = _
      rw [up2_up2]
theorem le40 {x : Int32} : ¬ (40 : Int32) < x ↔ x ≤ 40 := Int32.not_lt
theorem P_chance {I : MI} {J : MJ} {T B0 : Nat} (h : St I J T B0) (h30 : T + 10001 ≤ 1000000000) (x : Int32) : Pair I J T B0 (M_X9_chance [mR (some 0), mI x]) (M_X10_chance [mR (some 188), mI x]) := by
  have refs : ∀ Y : MI, RefL J → (bz (Y 188 13) = 0 ∨ x < 1 ∨ ¬ x ≤ 40) → M_X10_chance [mR (some 188), mI x] (Y, J) = some (some (mI (-1)), (rfR Y 2, J)) := fun Y rl hc => by
    rw [E_X10_chance]
    simp only [rl.fz, Option.bind_some, rl.kt, if_true, w_refuses rl Y (show (2 : Int32) = nI 2 from rfl) (by decide), asI_I, w_isIn x 1 40 _ (show (1 : Int64) = Int32.toInt64 1 from rfl) (show (40 : Int64) = Int32.toInt64 40 from rfl)]
    by_cases z : bz (Y 188 13) = 0
    · rw [if_pos z]
    · rw [if_neg z]
      by_cases a : x < 1
      · simp [a]
      · rw [if_neg a, if_pos (Classical.byContradiction (fun y => hc.elim z (fun w => w.elim a (fun v => v (le40.mp y)))))]
        simp
  rcases h.2.2.2.2.2.2.2.2.2 with td | u
  · by_cases hc : x < 1 ∨ ¬ x ≤ 40
    · refine Pair.no h h30 (k := 2) (by decide) (u_chance_no h.1.1 I x (Or.inr hc)) (refs _ h.1.2 (Or.inr hc))
    · have b1 : ¬ x < 1 := fun z => hc (Or.inl z)
      have b2 : x ≤ 40 := Classical.byContradiction (fun z => hc (Or.inr z))
      have xn : x = nI (ix x) := nI_ix (fun z => b1 (Int32.lt_trans z (by decide)))
      have nl := ix_lt x
      generalize ix x = n at xn nl
      subst xn
      have n31 : n ≤ 40 := (nI_leI (b := 40) nl (by decide)).mp b2
      have n1 : 1 ≤ n := by
        rcases Nat.eq_zero_or_pos n with z | z
        · rw [z] at b1
          exact absurd (by decide) b1
        · exact z
      obtain ⟨vol, nn, t, X, J1, hv, i, c, r, k1, kl, rl, wf, xo, j6, j1, rest⟩ := act_pre0 h h30 td
      have n60 := i.N.n60
      have tT := i.Z.tT
      have e1 := wf.1
      have e2 := wf.2.1
      have e3 := wf.2.2.1
      have e4 := wf.2.2.2.1
      obtain ⟨v, v31, hv0⟩ := j6.2
      have hv1 : J1.1 188 31 = lN v := by rw [← j6.1]; exact hv0
      have cm : q_X8_mountedNodes (vw 1 X 16) (vw 6 X 1) (vw 12 X 17) = nI (cnt (mtB (vw 6 I 1) (vw 12 I 17)) 0 nn) := by
        rw [e1, e2]
        exact mn_q i.N _
      generalize hmm : cnt (mtB (vw 6 I 1) (vw 12 I 17)) 0 nn = m at cm
      have m60 : m ≤ 60 := by rw [← hmm]; exact Nat.le_trans (cnt_le _ _ _) n60
      have m0 : 0 < m := by rw [← hmm]; exact mt_pos i
      have uE := u_chance h.1.1 I (Told.h6 i) n1 n31 k1 kl (fun _ => by
        rw [cm, nI_l (by omega), show (0 : Int64) = lN 0 from rfl]
        exact fun z => by have := (lN_eq (by omega) (by decide)).mp z; omega)
      rw [cm] at uE
      have ip := i.T (show T ≤ T + 10001 by omega) h30
      have sim : ∀ (Y : MI) (J2 : MJ), RefL J2 → J2.1 188 31 = lN v → Y 194 = I 194 → Y 188 20 = -1 → Y 188 21 = -1 → ∃ (R : RouV) (V' : MemV) (Y' : MI) (t' v' : Nat), chS (nI m) n (X, J1) = (pt (pt X 183 R) 17 V', (up2 J1.1 0 15 (lN v'), J1.2)) ∧ v' < 2 ^ 31 ∧ Ev T_X10_chance 38 [some (mR (some 188)), some (mI (nI n)), some (mI (I 17 13)), some (mI (nI 0))] [] (Y, J2) = some (some (mI (V' 0 13 - I 17 13)), (Y', (up2 J2.1 188 31 (lN v'), J2.2))) ∧ (∀ x, x ≠ 188 → x ≠ 192 → x ≠ 194 → x ≠ 195 → x ≠ 198 → Y' x = Y x) ∧ (∀ k, k ≠ 15 → k ≠ 22 → Y' 188 k = Y 188 k) ∧ Rel none (vw 6 I 1) V' (vw 1 I 29) (wks I 31) (Y' 194) nn ∧ Inv (vw 6 I 1) V' (vw 1 I 29) (wks I 31) nn vol t' (T + 10001) (fun _ => 0) ∧ CntI V' := fun Y J2 rj hj yD y20 y21 =>
        chance_sim n31 (I 17 13) n 0 X Y J1 J2 v t (by omega) e1 rfl (by rw [e2]; exact ip) (by rw [e2]; exact c) (by rw [e2]; exact hmm) v31 hv0 (by omega) rj (by rw [e2, yD]; exact r) y20 y21 hj
      obtain ⟨Z0, _, zf0, _⟩ := rest X (fun _ _ _ _ => rfl) (by rw [xo 0 (by decide) (by decide)])
      obtain ⟨R, V', _, _, v', c1, c2, _⟩ := sim Z0 J1 rl hv1 zf0.1 zf0.2.1 zf0.2.2.1
      rw [c1] at uE
      have x17 : X 17 13 = I 17 13 := by rw [xo 17 (by decide) (by decide)]
      have v17 : pt (pt X 183 R) 17 V' 17 13 = V' 0 13 := by rw [pt_0]
      have uE2 : M_X9_chance [mR (some 0), mI (nI n)] (I, J) = some (some (mI (V' 0 13 - I 17 13)), (pt (pt X 183 R) 17 V', (up2 J1.1 0 15 (lN v'), J1.2))) := by
        rw [uE, ← v17, ← x17]
      clear uE
      have po : ∀ y, y < 17 ∨ (29 ≤ y ∧ y < 183) ∨ 185 ≤ y → pt (pt X 183 R) 17 V' y = X y := fun y q => by rw [pt_out (by omega), pt_out (by omega)]
      obtain ⟨Z, z1, zf, zo, zk, fin⟩ := rest (pt (pt X 183 R) 17 V') (fun y q1 q2 q3 => po y (by omega)) (by rw [po 0 (by omega), xo 0 (by decide) (by decide)])
      have rl' : RefL (up2 J1.1 0 15 (lN v'), J1.2) := rl
      have kJ : M_X10_keeps [mR (some 188)] (pt (pt X 183 R) 17 V', ((up2 J1.1 0 15 (lN v'), J1.2) : MJ)) = some (none, (Z, (up2 J1.1 0 15 (lN v'), J1.2))) := by
        obtain ⟨_, ad, p, q, _, _, _, hs⟩ := td
        have i188 : pt (pt X 183 R) 17 V' 188 = I 188 := by rw [po 188 (by omega), xo 188 (by decide) (by decide)]
        have w1 := w_keeps (J := J1) rl (pt (pt X 183 R) 17 V') (p := p) (q := q) (by rw [i188]; exact hs.2.1.2) hs.1.2.1 (by rw [i188]; exact hs.2.1.1) hs.1.2.2.2
        have w2 := w_keeps rl' (pt (pt X 183 R) 17 V') (p := p) (q := q) (by rw [i188]; exact hs.2.1.2) hs.1.2.1 (by rw [i188]; exact hs.2.1.1) hs.1.2.2.2
        have e : Z = kpR (pt (pt X 183 R) 17 V') ((p + 1) % 20) (min (q + 1) 20) := by
          have := z1.symm.trans w1
          simp only [Option.some.injEq, Prod.mk.injEq, true_and] at this
          exact this.1
        rw [w2, e]
      obtain ⟨R2, V2, Y2, t2, v2, d1, d2, d3, d4, d5, d6, d7, d8⟩ := sim Z (up2 J1.1 0 15 (lN v'), J1.2) rl' (by
        show up2 J1.1 0 15 (lN v') 188 31 = _
        rw [show up2 J1.1 0 15 (lN v') 188 31 = J1.1 188 31 by simp [up2]]
        exact hv1) zf.1 zf.2.1 zf.2.2.1
      have same := c1.symm.trans d1
      simp only [Prod.mk.injEq] at same
      have sV : V' = V2 := by
        have := congrArg (fun I => vw 12 I 17) same.1
        simp only [vw_pt] at this
        exact this
      have sv : lN v' = lN v2 := by
        have := congrFun (congrFun same.2.1 0) 15
        simp only [up2, and_self, if_true] at this
        exact this
      subst sV
      obtain ⟨_, _, _, zl, z190, _, _, z13⟩ := zf
      have d31 : I 194 1 = I 17 13 := r.B.lo
      have low : ∀ y, y < 188 → y < 17 ∨ (29 ≤ y ∧ y < 183) ∨ 185 ≤ y → y ≠ 67 → Y2 y = I y := fun y a b c => by rw [d4 y (by omega) (by omega) (by omega) (by omega) (by omega), zl y a, po y b, xo y (by omega) c]
      refine ⟨_, _, Y2, (up2 (up2 J1.1 0 15 (lN v')) 188 31 (lN v2), J1.2), uE2, ?_, ?_⟩
      · have t13 : ¬ bz (pt (pt X 183 R) 17 V' 188 13) = 0 := by
          rw [po 188 (by omega), xo 188 (by decide) (by decide)]
          rw [zk 13 (by decide) (by decide)] at z13
          exact z13
        rw [E_X10_chance]
        simp only [rl'.fz, Option.bind_some, rl'.kt, if_true, if_neg t13, asI_I, w_isIn (nI n) 1 40 _ (show (1 : Int64) = Int32.toInt64 1 from rfl) (show (40 : Int64) = Int32.toInt64 40 from rfl), if_neg b1, if_neg (le40.mpr b2), if_neg i10, kJ, asV_n, rl'.f18, rl'.ldD _ (show (1 : Int32) = nI 1 from rfl) (show 1 < 1853 by decide), show Z 194 = I 194 by assumption, d31]
        exact d3
      · refine fin _ _ (fun y p1 _ p3 p4 p5 p6 _ _ => d4 y p1 p3 p4 p5 p6) (fun k p1 p2 _ => d5 k p1 p2) (h.2.2.2.1.fr (low 186 (by decide) (by decide) (by decide)) (by rw [d4 190 (by decide) (by decide) (by decide) (by decide) (by decide)]; exact z190)) (h.2.2.2.2.2.1.fr (by rw [low 0 (by decide) (by decide) (by decide)]) (low 187 (by decide) (by decide) (by decide)) (by rw [d5 32 (by decide) (by decide), zk 32 (by decide) (by decide)]) (by rw [d4 201 (by decide) (by decide) (by decide) (by decide) (by decide), zo 201 (by decide) (by decide), po 201 (by omega), xo 201 (by decide) (by decide)])) (Wd.mk d7 d8 d6 ?_ ?_ ?_ (fun k hk => ?_) rfl) ?_ rfl
        · exact vw_fr (fun y _ _ => low y (by omega) (by omega) (by omega))
        · have : vw 12 Y2 17 = vw 12 (pt (pt X 183 R) 17 V') 17 := vw_fr (fun y p q => by rw [d4 y (by omega) (by omega) (by omega) (by omega) (by omega), zl y (by omega)])
          rw [this, vw_pt]
        · exact vw_fr (fun y _ _ => low y (by omega) (by omega) (by omega))
        · rw [wks_fr (I := I) (fun y _ _ => low y (by omega) (by omega) (by omega)) hk]; exact WkEq.refl _
        · refine ⟨?_, v2, d2, ?_⟩
          · show up2 (up2 J1.1 0 15 (lN v')) 188 31 (lN v2) 0 15 = up2 (up2 J1.1 0 15 (lN v')) 188 31 (lN v2) 188 31
            rw [show up2 (up2 J1.1 0 15 (lN v')) 188 31 (lN v2) 0 15 = lN v' by simp [up2], show up2 (up2 J1.1 0 15 (lN v')) 188 31 (lN v2) 188 31 = lN v2 by simp [up2]]
            exact sv
          · show up2 (up2 J1.1 0 15 (lN v')) 188 31 (lN v2) 0 15 = lN v2
            rw [show up2 (up2 J1.1 0 15 (lN v')) 188 31 (lN v2) 0 15 = lN v' by simp [up2]]
            exact sv
  · have h6 : I 1 6 ≤ 0 := by rw [u.2.2.1.2.1]; exact Int32.le_refl _
    refine Pair.no h h30 (k := 2) (by decide) (u_chance_no h.1.1 I x (Or.inl h6)) (refs _ h.1.2 (Or.inl ?_))
    rw [rfz_o _ _ (by decide)]
    exact u.2.1
end
section
/-! What a trace begins with: mounts alone. -/
theorem ent_ix {V : MemV} {x : Int32} (h : ¬ q_X1_isEntry V x = 0) : ∃ e, e < 64 ∧ x = nI e ∧ ¬ V 1 e = 0 := by
  unfold q_X1_isEntry at h
  by_cases a : x < 0
  · rw [if_pos a] at h; exact absurd rfl h
  · rw [if_neg a] at h
    by_cases b : (64 : Int32) ≤ x
    · rw [if_pos b] at h; exact absurd rfl h
    · rw [if_neg b] at h
      have l64 : ix x < 64 := by
        rcases Nat.lt_or_ge (ix x) 64 with z | z
        · exact z
        · exact absurd (by rw [nI_ix a]; exact nI_le (a := 64) z (ix_lt x)) b
      refine ⟨ix x, l64, nI_ix a, fun z => ?_⟩
      rw [if_pos z] at h
      exact absurd rfl h
/-- whether j is met going up from x -/
def mkB (V : MemV) : Nat → Int32 → Nat → Bool
  | 0, _, _ => false
  | f + 1, x, j => if q_X1_isEntry V x = 0 then false else if x = nI j then true else mkB V f (V 2 (ix x)) j
theorem mkB_s (V : MemV) (f : Nat) (x : Int32) (j : Nat) : mkB V (f + 1) x j = if q_X1_isEntry V x = 0 then false else if x = nI j then true else mkB V f (V 2 (ix x)) j := rfl
theorem isE_cg {V V' : MemV} (h1 : V' 1 = V 1) (x : Int32) : q_X1_isEntry V' x = q_X1_isEntry V x := by
  unfold q_X1_isEntry
  rw [h1]
theorem mkB_cg {V V' : MemV} (h1 : V' 1 = V 1) (h2 : V' 2 = V 2) : ∀ (f : Nat) (x : Int32) (j : Nat), mkB V' f x j = mkB V f x j
  | 0, x, j => rfl
  | f + 1, x, j => by
    rw [mkB_s, mkB_s, isE_cg h1, h2, mkB_cg h1 h2 f]
theorem mark_q : ∀ (nn k : Nat) (x : Int32) (V : MemV), (∀ q : Fin 12, q ≠ 5 → lp_X1_markUpFrom_4 nn k x V q = V q) ∧ ∀ j, j < 64 → lp_X1_markUpFrom_4 nn k x V 5 j = if mkB V nn x j = true then 1 else V 5 j
  | 0, k, x, V => ⟨fun q _ => rfl, fun j _ => by
    show V 5 j = if (false : Bool) = true then 1 else V 5 j
    rw [if_neg (by decide)]⟩
  | nn + 1, k, x, V => by
    have st : lp_X1_markUpFrom_4 (nn + 1) k x V = if (q_X1_isEntry V x) = 0 then (V) else lp_X1_markUpFrom_4 nn (k + 1) (V 2 (ix x)) (uv V 5 (ix x) 1) := rfl
    rw [st]
    by_cases z : q_X1_isEntry V x = 0
    · rw [if_pos z]
      refine ⟨fun q _ => rfl, fun j _ => ?_⟩
      rw [mkB_s, if_pos z, if_neg (by decide)]
    · rw [if_neg z]
      obtain ⟨e, e64, xe, _⟩ := ent_ix z
      obtain ⟨g1, g2⟩ := mark_q nn (k + 1) (V 2 (ix x)) (uv V 5 (ix x) 1)
      refine ⟨fun q hq => by rw [g1 q hq, uv_k _ _ _ _ _ hq], fun j hj => ?_⟩
      rw [g2 j hj, mkB_cg (uv_k _ _ _ _ _ (by decide)) (uv_k _ _ _ _ _ (by decide)), mkB_s, if_neg z, uv_at, xe, ix_nI (by omega)]
      by_cases w : j = e
      · subst w
        rw [if_pos rfl, if_pos rfl, if_pos rfl]
        split <;> rfl
      · rw [if_neg w, if_neg (fun q => w ((nI_eq (by omega) (by omega)).mp q).symm)]
def mk2 (k : Nat) (V : MemV) : MemV := gV_X1_markUpFrom (gV_X1_markUpFrom V (V 9 k)) ((gV_X1_markUpFrom V (V 9 k)) 10 k)
theorem mk2_q (k : Nat) (V : MemV) : (∀ q : Fin 12, q ≠ 5 → mk2 k V q = V q) ∧ ∀ j, j < 64 → mk2 k V 5 j = if (mkB V 64 (V 9 k) j || mkB V 64 (V 10 k) j) = true then 1 else V 5 j := by
  obtain ⟨a1, a2⟩ := mark_q 64 0 (V 9 k) V
  obtain ⟨b1, b2⟩ := mark_q 64 0 (gV_X1_markUpFrom V (V 9 k) 10 k) (gV_X1_markUpFrom V (V 9 k))
  have e : gV_X1_markUpFrom V (V 9 k) = lp_X1_markUpFrom_4 64 0 (V 9 k) V := rfl
  have e2 : mk2 k V = lp_X1_markUpFrom_4 64 0 (gV_X1_markUpFrom V (V 9 k) 10 k) (gV_X1_markUpFrom V (V 9 k)) := rfl
  rw [← e] at a1 a2
  rw [← e2] at b1 b2
  refine ⟨fun q hq => by rw [b1 q hq, a1 q hq], fun j hj => ?_⟩
  rw [b2 j hj, mkB_cg (a1 1 (by decide)) (a1 2 (by decide)), a1 10 (by decide), a2 j hj]
  by_cases x : mkB V 64 (V 9 k) j = true
  · rw [if_pos x, x, Bool.true_or, if_pos rfl]
    split <;> rfl
  · have x' : mkB V 64 (V 9 k) j = false := by simpa using x
    rw [if_neg x, x', Bool.false_or]
/-- what is kept -/
def kB (V : MemV) (j : Nat) : Bool := (mkB V 64 (V 9 0) j || mkB V 64 (V 10 0) j) || ((mkB V 64 (V 9 1) j || mkB V 64 (V 10 1) j) || (mkB V 64 (V 9 2) j || mkB V 64 (V 10 2) j))
theorem mk_all (V : MemV) (v5 : ∀ j, j < 64 → V 5 j = 0) : (∀ q : Fin 12, q ≠ 5 → itr mk2 0 3 V q = V q) ∧ ∀ j, j < 64 → itr mk2 0 3 V 5 j = if kB V j = true then 1 else 0 := by
  have e : itr mk2 0 3 V = mk2 2 (mk2 1 (mk2 0 V)) := rfl
  obtain ⟨a1, a2⟩ := mk2_q 0 V
  obtain ⟨b1, b2⟩ := mk2_q 1 (mk2 0 V)
  obtain ⟨c1, c2⟩ := mk2_q 2 (mk2 1 (mk2 0 V))
  have k2 : ∀ q : Fin 12, q ≠ 5 → mk2 1 (mk2 0 V) q = V q := fun q hq => by rw [b1 q hq, a1 q hq]
  refine ⟨fun q hq => by rw [e, c1 q hq, k2 q hq], fun j hj => ?_⟩
  rw [e, c2 j hj, mkB_cg (k2 1 (by decide)) (k2 2 (by decide)), mkB_cg (k2 1 (by decide)) (k2 2 (by decide)), k2 9 (by decide), k2 10 (by decide), b2 j hj, mkB_cg (a1 1 (by decide)) (a1 2 (by decide)), mkB_cg (a1 1 (by decide)) (a1 2 (by decide)), a1 9 (by decide), a1 10 (by decide), a2 j hj, v5 j hj]
  unfold kB
  generalize (mkB V 64 (V 9 0) j || mkB V 64 (V 10 0) j) = x0
  generalize (mkB V 64 (V 9 1) j || mkB V 64 (V 10 1) j) = x1
  generalize (mkB V 64 (V 9 2) j || mkB V 64 (V 10 2) j) = x2
  cases x0 <;> cases x1 <;> cases x2 <;> rfl
theorem km_lp10 : ∀ (nn k : Nat) (V : MemV), lp_X1_keepMountsAlone_10 nn k V = lp_X1_keepMountsAlone_43 64 0 (itr mk2 k nn V)
  | 0, k, V => rfl
  | nn + 1, k, V => km_lp10 nn (k + 1) (mk2 k V)
def unk (k : Nat) (V : MemV) : MemV := if V 5 k = 0 then uv V 1 k 0 else V
theorem km_lp43 : ∀ (nn k : Nat) (V : MemV), lp_X1_keepMountsAlone_43 nn k V = lp_X1_keepMountsAlone_81 64 0 (cpv (itr unk k nn V) 5 64 (fun _ => 0))
  | 0, k, V => rfl
  | nn + 1, k, V => by
    show (if (V 5 k) = 0 then lp_X1_keepMountsAlone_43 nn (k + 1) (uv V 1 k 0) else lp_X1_keepMountsAlone_43 nn (k + 1) V) = lp_X1_keepMountsAlone_81 64 0 (cpv (itr unk (k + 1) nn (unk k V)) 5 64 (fun _ => 0))
    unfold unk
    by_cases z : V 5 k = 0
    · rw [if_pos z, if_pos z]
      exact km_lp43 nn (k + 1) _
    · rw [if_neg z, if_neg z]
      exact km_lp43 nn (k + 1) _
theorem unk_q : ∀ (nn k : Nat) (V : MemV), (∀ q : Fin 12, q ≠ 1 → itr unk k nn V q = V q) ∧ ∀ j, itr unk k nn V 1 j = if k ≤ j ∧ j < k + nn ∧ V 5 j = 0 then 0 else V 1 j
  | 0, k, V => ⟨fun q _ => rfl, fun j => by rw [if_neg (by omega)]; rfl⟩
  | nn + 1, k, V => by
    have e : itr unk k (nn + 1) V = itr unk (k + 1) nn (unk k V) := rfl
    obtain ⟨g1, g2⟩ := unk_q nn (k + 1) (unk k V)
    have u : ∀ q : Fin 12, q ≠ 1 → unk k V q = V q := fun q hq => by
      unfold unk
      split
      · exact uv_k _ _ _ _ _ hq
      · rfl
    have u1 : ∀ j, unk k V 1 j = if j = k ∧ V 5 k = 0 then 0 else V 1 j := fun j => by
      unfold unk
      by_cases z : V 5 k = 0
      · rw [if_pos z, uv_at]
        by_cases w : j = k
        · rw [if_pos w, if_pos ⟨w, z⟩]
        · rw [if_neg w, if_neg (fun q => w q.1)]
      · rw [if_neg z, if_neg (fun q => z q.2)]
    refine ⟨fun q hq => by rw [e, g1 q hq, u q hq], fun j => ?_⟩
    rw [e, g2, u 5 (by decide), u1]
    by_cases w : j = k
    · subst w
      by_cases z : V 5 j = 0
      · rw [if_neg (by omega), if_pos ⟨rfl, z⟩, if_pos ⟨by omega, by omega, z⟩]
      · rw [if_neg (by omega), if_neg (fun q => z q.2), if_neg (fun q => z q.2.2)]
    · by_cases c : k + 1 ≤ j ∧ j < k + 1 + nn ∧ V 5 j = 0
      · rw [if_pos c, if_pos ⟨by omega, by omega, c.2.2⟩]
      · rw [if_neg c, if_neg (fun q => w q.1), if_neg (fun q => c ⟨by omega, by omega, q.2.2⟩)]
theorem hold_any (V : MemV) (x : Int32) {e : Nat} (he : e < 64) : gV_X1_hold V x 5 e = if x = nI e then V 5 e + 1 else V 5 e := by
  unfold gV_X1_hold
  by_cases a : x < 0
  · rw [if_pos a, if_neg (fun z => by rw [z] at a; exact nI_pos (show e < 2 ^ 31 by omega) a)]
  · rw [if_neg a]
    by_cases b : x < 64
    · rw [if_neg (Int32.not_le.mpr b), uv_at]
      by_cases z : x = nI e
      · rw [if_pos z, z, ix_nI (by omega), if_pos rfl]
      · rw [if_neg z, if_neg (fun w => z (by rw [w]; exact nI_ix a))]
    · rw [if_pos (Int32.not_lt.mp b), if_neg (fun z => b (by rw [z]; exact nI_lt (b := 64) he (by decide)))]
def hpp (k : Nat) (V : MemV) : MemV := if V 1 k = 0 then V else gV_X1_hold V (V 2 k)
def hpv (k : Nat) (V : MemV) : MemV := gV_X1_hold V (V 10 k)
theorem km_lp114 : ∀ (nn k : Nat) (V : MemV), lp_X1_keepMountsAlone_114 nn k V = itr hpv k nn V
  | 0, k, V => rfl
  | nn + 1, k, V => km_lp114 nn (k + 1) (hpv k V)
theorem km_lp81 : ∀ (nn k : Nat) (V : MemV), lp_X1_keepMountsAlone_81 nn k V = itr hpv 0 3 (itr hpp k nn V)
  | 0, k, V => km_lp114 3 0 V
  | nn + 1, k, V => by
    show (if (V 1 k) = 0 then lp_X1_keepMountsAlone_81 nn (k + 1) V else lp_X1_keepMountsAlone_81 nn (k + 1) (gV_X1_hold V (V 2 k))) = itr hpv 0 3 (itr hpp (k + 1) nn (hpp k V))
    unfold hpp
    by_cases z : V 1 k = 0
    · rw [if_pos z, if_pos z]
      exact km_lp81 nn (k + 1) _
    · rw [if_neg z, if_neg z]
      exact km_lp81 nn (k + 1) _
theorem hpp_q : ∀ (nn k : Nat) (V : MemV), (∀ q : Fin 12, q ≠ 5 → itr hpp k nn V q = V q) ∧ ∀ e, e < 64 → itr hpp k nn V 5 e = V 5 e + nI (cnt (fun j => decide (¬ V 1 j = 0 ∧ V 2 j = nI e)) k nn)
  | 0, k, V => ⟨fun q _ => rfl, fun e _ => by
    show V 5 e = V 5 e + nI 0
    rw [nI_0, Int32.add_zero]⟩
  | nn + 1, k, V => by
    have e1 : itr hpp k (nn + 1) V = itr hpp (k + 1) nn (hpp k V) := rfl
    obtain ⟨g1, g2⟩ := hpp_q nn (k + 1) (hpp k V)
    have u : ∀ q : Fin 12, q ≠ 5 → hpp k V q = V q := fun q hq => by
      unfold hpp
      split
      · rfl
      · exact ho_k _ _ q hq
    refine ⟨fun q hq => by rw [e1, g1 q hq, u q hq], fun e he => ?_⟩
    have c : cnt (fun j => decide (¬ V 1 j = 0 ∧ V 2 j = nI e)) k (nn + 1) = (if decide (¬ V 1 k = 0 ∧ V 2 k = nI e) = true then 1 else 0) + cnt (fun j => decide (¬ V 1 j = 0 ∧ V 2 j = nI e)) (k + 1) nn := rfl
    rw [e1, g2 e he, u 1 (by decide), u 2 (by decide), c, ← nI_add]
    have h5 : hpp k V 5 e = V 5 e + nI (if decide (¬ V 1 k = 0 ∧ V 2 k = nI e) = true then 1 else 0) := by
      unfold hpp
      by_cases z : V 1 k = 0
      · rw [if_pos z, if_neg (by simp [z]), nI_0, Int32.add_zero]
      · rw [if_neg z, hold_any V _ he]
        by_cases w : V 2 k = nI e
        · rw [if_pos w, if_pos (by simp [z, w])]
          rfl
        · rw [if_neg w, if_neg (by simp [w]), nI_0, Int32.add_zero]
    rw [h5, Int32.add_assoc]
theorem hpv_q : ∀ (nn k : Nat) (V : MemV), (∀ q : Fin 12, q ≠ 5 → itr hpv k nn V q = V q) ∧ ∀ e, e < 64 → itr hpv k nn V 5 e = V 5 e + nI (cnt (fun j => decide (V 10 j = nI e)) k nn)
  | 0, k, V => ⟨fun q _ => rfl, fun e _ => by
    show V 5 e = V 5 e + nI 0
    rw [nI_0, Int32.add_zero]⟩
  | nn + 1, k, V => by
    have e1 : itr hpv k (nn + 1) V = itr hpv (k + 1) nn (hpv k V) := rfl
    obtain ⟨g1, g2⟩ := hpv_q nn (k + 1) (hpv k V)
    have u : ∀ q : Fin 12, q ≠ 5 → hpv k V q = V q := fun q hq => ho_k _ _ q hq
    refine ⟨fun q hq => by rw [e1, g1 q hq, u q hq], fun e he => ?_⟩
    have c : cnt (fun j => decide (V 10 j = nI e)) k (nn + 1) = (if decide (V 10 k = nI e) = true then 1 else 0) + cnt (fun j => decide (V 10 j = nI e)) (k + 1) nn := rfl
    rw [e1, g2 e he, u 10 (by decide), c, ← nI_add]
    have h5 : hpv k V 5 e = V 5 e + nI (if decide (V 10 k = nI e) = true then 1 else 0) := by
      unfold hpv
      rw [hold_any V _ he]
      by_cases w : V 10 k = nI e
      · rw [if_pos w, if_pos (by simp [w])]
        rfl
      · rw [if_neg w, if_neg (by simp [w]), nI_0, Int32.add_zero]
    rw [h5, Int32.add_assoc]
theorem cpv_k {V : MemV} {n : Nat} {f : Nat → Int32} {k q : Fin 12} (h : q ≠ k) : cpv V k n f q = V q := by
  funext j
  unfold cpv
  rw [if_neg (fun z => h z.1)]
/-- the class's bare memory -/
theorem bare_q (V : MemV) : (∀ q : Fin 12, q ≠ 1 → q ≠ 5 → gV_X1_keepMountsAlone V q = V q) ∧ (∀ j, j < 64 → gV_X1_keepMountsAlone V 1 j = if kB V j = true then V 1 j else 0) ∧ ∀ e, e < 64 → gV_X1_keepMountsAlone V 5 e = nI (hcC (gV_X1_keepMountsAlone V) e + hcV (gV_X1_keepMountsAlone V) e) := by
  have c5 : ∀ j, j < 64 → cpv V 5 64 (fun _ => 0) 5 j = 0 := fun j hj => by
    unfold cpv
    rw [if_pos ⟨rfl, hj⟩]
  have ck : ∀ q : Fin 12, q ≠ 5 → cpv V 5 64 (fun _ => 0) q = V q := fun q hq => cpv_k hq
  obtain ⟨a1, a2⟩ := mk_all (cpv V 5 64 (fun _ => 0)) c5
  have kk : ∀ j, kB (cpv V 5 64 (fun _ => 0)) j = kB V j := fun j => by
    unfold kB
    rw [ck 9 (by decide), ck 10 (by decide)]
    rw [mkB_cg (ck 1 (by decide)) (ck 2 (by decide)), mkB_cg (ck 1 (by decide)) (ck 2 (by decide)), mkB_cg (ck 1 (by decide)) (ck 2 (by decide)), mkB_cg (ck 1 (by decide)) (ck 2 (by decide)), mkB_cg (ck 1 (by decide)) (ck 2 (by decide)), mkB_cg (ck 1 (by decide)) (ck 2 (by decide))]
  have e : gV_X1_keepMountsAlone V = itr hpv 0 3 (itr hpp 0 64 (cpv (itr unk 0 64 (itr mk2 0 3 (cpv V 5 64 (fun _ => 0)))) 5 64 (fun _ => 0))) := by
    show lp_X1_keepMountsAlone_10 3 0 (cpv V 5 64 (fun _ => 0)) = _
    rw [km_lp10, km_lp43, km_lp81]
  generalize itr mk2 0 3 (cpv V 5 64 (fun _ => 0)) = A at a1 a2 e
  obtain ⟨b1, b2⟩ := unk_q 64 0 A
  generalize itr unk 0 64 A = B at b1 b2 e
  have d5 : ∀ j, j < 64 → cpv B 5 64 (fun _ => 0) 5 j = 0 := fun j hj => by
    unfold cpv
    rw [if_pos ⟨rfl, hj⟩]
  have dk : ∀ q : Fin 12, q ≠ 5 → cpv B 5 64 (fun _ => 0) q = B q := fun q hq => cpv_k hq
  generalize cpv B 5 64 (fun _ => 0) = C at d5 dk e
  obtain ⟨f1, f2⟩ := hpp_q 64 0 C
  generalize itr hpp 0 64 C = E at f1 f2 e
  obtain ⟨g1, g2⟩ := hpv_q 3 0 E
  rw [← e] at g1 g2
  have row : ∀ q : Fin 12, q ≠ 1 → q ≠ 5 → gV_X1_keepMountsAlone V q = V q := fun q q1 q5 => by rw [g1 q q5, f1 q q5, dk q q5, b1 q q1, a1 q q5, ck q q5]
  have r1 : ∀ j, j < 64 → gV_X1_keepMountsAlone V 1 j = if kB V j = true then V 1 j else 0 := fun j hj => by
    rw [g1 1 (by decide), f1 1 (by decide), dk 1 (by decide), b2, a2 j hj, kk, a1 1 (by decide), ck 1 (by decide)]
    by_cases z : kB V j = true
    · rw [if_pos z, if_pos z, if_neg (fun q => i10 q.2.2)]
    · rw [if_neg z, if_neg z, if_pos ⟨by omega, by omega, rfl⟩]
  refine ⟨row, r1, fun e' he => ?_⟩
  have x1 : gV_X1_keepMountsAlone V 1 = C 1 := by rw [g1 1 (by decide), f1 1 (by decide)]
  have x2 : gV_X1_keepMountsAlone V 2 = C 2 := by rw [g1 2 (by decide), f1 2 (by decide)]
  have x10 : gV_X1_keepMountsAlone V 10 = E 10 := g1 10 (by decide)
  rw [g2 e' he, f2 e' he, d5 e' he, ← nI_add]
  unfold hcC hcV
  rw [x1, x2, x10]
  rw [Int32.zero_add]
end
section
/-! Mounts alone: what holds of them; the reference's side. -/
theorem mk_m1 (V : MemV) (j : Nat) : ∀ f, mkB V f (-1) j = false
  | 0 => rfl
  | f + 1 => by
    rw [mkB_s, if_pos]
    unfold q_X1_isEntry
    rw [if_pos (by decide)]
theorem mk_self {V : MemV} {g : Nat} (g64 : g < 64) (g1 : ¬ V 1 g = 0) (f : Nat) : mkB V (f + 1) (nI g) g = true := by
  rw [mkB_s, Inv.isE g64 g1, if_neg i10, if_pos rfl]
theorem mk_at {U : NodV} {V : MemV} {n vol : Nat} (hN : NodI U n vol) (hM : MemI U V n vol) : ∀ (f g e : Nat), At V g → e < 2 ^ 31 → mkB V f (nI g) e = true → At V e
  | 0, g, e, _, _, h => by cases h
  | f + 1, g, e, hg, he, h => by
    have n60 := hN.n60
    have g64 := hg.1
    have g0 : ¬ V 1 g = 0 := by rw [hg.2.1]; exact i10
    rw [mkB_s, Inv.isE g64 g0, if_neg i10, ix_nI (by omega)] at h
    by_cases z : nI g = nI e
    · have : g = e := (nI_eq (by omega) (by omega)).mp z
      rw [← this]; exact hg
    · rw [if_neg z] at h
      by_cases w : V 2 g = -1
      · rw [w, mk_m1] at h; cases h
      · obtain ⟨k, kn, ke, _⟩ := hM.nk hN hg
        obtain ⟨p, kp, p64, p2, p1, kpn, kp4, _⟩ := hM.up hN g64 hg.2.1 w ke kn
        rw [p2] at h
        exact mk_at hN hM f p e ⟨p64, p1, by rw [kp4]; exact nI_m1 (by omega)⟩ he h
theorem mk_par {V : MemV} {e p : Nat} (e64 : e < 64) (e2 : V 2 e = nI p) (p64 : p < 64) (p1 : ¬ V 1 p = 0) : ∀ (f : Nat) (x : Int32), mkB V f x e = true → mkB V (f + 1) x p = true
  | 0, x, h => by cases h
  | f + 1, x, h => by
    rw [mkB_s] at h ⊢
    by_cases z : q_X1_isEntry V x = 0
    · rw [if_pos z] at h; cases h
    · rw [if_neg z] at h ⊢
      by_cases w : x = nI p
      · rw [if_pos w]
      · rw [if_neg w]
        by_cases y : x = nI e
        · rw [y, ix_nI (by omega), e2]
          exact mk_self p64 p1 f
        · rw [if_neg y] at h
          exact mk_par e64 e2 p64 p1 f _ h
theorem mk_st {U : NodV} {V : MemV} {n vol : Nat} (hN : NodI U n vol) (hM : MemI U V n vol) {d : Nat → Nat} (hd : ∀ k p, k < n → p < n → ¬ U 4 k = 0 → U 2 k = nI p → d p < d k) (j : Nat) : ∀ (f g k : Nat), At V g → V 4 g = nI k → k < n → rkc d n k < f → mkB V (f + 1) (nI g) j = mkB V f (nI g) j
  | 0, g, k, _, _, _, h => by omega
  | f + 1, g, k, hg, g4, kn, h => by
    have n60 := hN.n60
    have g64 := hg.1
    rw [mkB_s V (f + 1) (nI g) j, mkB_s V f (nI g) j]
    by_cases w : V 2 g = -1
    · rw [ix_nI (by omega), w, mk_m1, mk_m1]
    · obtain ⟨p, kp, p64, p2, p1, kpn, kp4, u2, _, u4, _⟩ := hM.up hN g64 hg.2.1 w g4 kn
      have := rkc_lt (n := n) kpn (hd k kp kn kpn u4 u2)
      rw [ix_nI (by omega), p2, mk_st hN hM hd j f p kp ⟨p64, p1, by rw [kp4]; exact nI_m1 (by omega)⟩ kp4 kpn (by omega)]
theorem kB_iff (V : MemV) (j : Nat) : kB V j = true ↔ ∃ v, v < 3 ∧ (mkB V 64 (V 9 v) j = true ∨ mkB V 64 (V 10 v) j = true) := by
  unfold kB
  rw [Bool.or_eq_true, Bool.or_eq_true, Bool.or_eq_true, Bool.or_eq_true, Bool.or_eq_true]
  constructor
  · rintro (a | a | a)
    · exact ⟨0, by decide, a⟩
    · exact ⟨1, by decide, a⟩
    · exact ⟨2, by decide, a⟩
  · rintro ⟨v, hv, a⟩
    rcases (show v = 0 ∨ v = 1 ∨ v = 2 by omega) with z | z | z
    · subst z; exact Or.inl a
    · subst z; exact Or.inr (Or.inl a)
    · subst z; exact Or.inr (Or.inr a)
/-- what marks begin with -/
theorem MemI.bg {U : NodV} {V : MemV} {n vol : Nat} (hM : MemI U V n vol) (hN : NodI U n vol) {v : Nat} (hv : v < 3) : (V 9 v = -1 ∨ ∃ g, V 9 v = nI g ∧ At V g ∧ V 2 g = -1) ∧ (V 10 v = -1 ∨ ∃ g, V 10 v = nI g ∧ At V g ∧ 1 ≤ v ∧ v < vol) := by
  have n60 := hN.n60
  rcases hM.rt v hv with ⟨z1, z2⟩ | ⟨vv, r, r64, r1, r2, r3, r4⟩
  · exact ⟨Or.inl z1, Or.inl z2⟩
  · obtain ⟨s, s1, s2, _⟩ := hN.rts v vv
    refine ⟨Or.inr ⟨r, r1, ⟨r64, r2, by rw [r4, s2]; exact nI_m1 (by omega)⟩, r3⟩, ?_⟩
    by_cases v0 : v = 0
    · subst v0; exact Or.inl hM.o0
    · obtain ⟨o, o64, o1, o2, _, o4⟩ := hM.ov v (by omega) hv (by rw [r1]; exact nI_m1 (by omega))
      obtain ⟨ko, k1, k2, _⟩ := hN.fo o4
      exact Or.inr ⟨o, o1, ⟨o64, o2, by rw [k2]; exact nI_m1 (by omega)⟩, by omega, vv⟩
theorem kB_at {U : NodV} {V : MemV} {n vol : Nat} (hN : NodI U n vol) (hM : MemI U V n vol) {e : Nat} (he : e < 2 ^ 31) (h : kB V e = true) : At V e := by
  obtain ⟨v, hv, a⟩ := (kB_iff V e).mp h
  obtain ⟨b1, b2⟩ := hM.bg hN hv
  rcases a with a | a
  · rcases b1 with z | ⟨g, z, ga, _⟩
    · rw [z, mk_m1] at a; cases a
    · rw [z] at a; exact mk_at hN hM _ g e ga he a
  · rcases b2 with z | ⟨g, z, ga, _⟩
    · rw [z, mk_m1] at a; cases a
    · rw [z] at a; exact mk_at hN hM _ g e ga he a
theorem kB_par {U : NodV} {V : MemV} {n vol : Nat} (hN : NodI U n vol) (hM : MemI U V n vol) {e p : Nat} (e64 : e < 64) (e2 : V 2 e = nI p) (p64 : p < 64) (p1 : ¬ V 1 p = 0) (h : kB V e = true) : kB V p = true := by
  obtain ⟨d, hd⟩ := hN.rk
  have n60 := hN.n60
  obtain ⟨v, hv, a⟩ := (kB_iff V e).mp h
  obtain ⟨b1, b2⟩ := hM.bg hN hv
  have go : ∀ g, At V g → mkB V 64 (nI g) e = true → mkB V 64 (nI g) p = true := fun g ga q => by
    obtain ⟨k, kn, ke, _⟩ := hM.nk hN ga
    have rk := rkc_le d n k
    rw [← mk_st hN hM hd p 64 g k ga ke kn (by omega)]
    exact mk_par e64 e2 p64 p1 64 _ q
  refine (kB_iff V p).mpr ⟨v, hv, ?_⟩
  rcases a with a | a
  · rcases b1 with z | ⟨g, z, ga, _⟩
    · rw [z, mk_m1] at a; cases a
    · rw [z] at a ⊢; exact Or.inl (go g ga a)
  · rcases b2 with z | ⟨g, z, ga, _⟩
    · rw [z, mk_m1] at a; cases a
    · rw [z] at a ⊢; exact Or.inr (go g ga a)
def H00 : OneV := fun _ _ => -1
def W00 : WkV := fun _ => (fun _ _ => 0, fun _ _ => 0, fun _ _ => 0)
theorem hc00 (V : MemV) {e : Nat} (he : e < 64) : hc V H00 W00 e = hcC V e + hcV V e := by
  have a : hcH H00 e = 0 := by
    unfold hcH
    refine cnt_zero (fun j _ _ => ?_)
    simp only [decide_eq_false_iff_not]
    exact fun z => nI_m1 (show e < 2 ^ 31 by omega) z.symm
  have b : hcW W00 e = 0 := by
    have k0 : ∀ k, hcK (W00 k) e = 0 := fun k => if_pos (Or.inl rfl)
    unfold hcW
    rw [show (fun k => hcK (W00 k) e) = fun _ => 0 from funext k0]
    rfl
  unfold hc
  rw [a, b]
  omega
theorem Inv.bare {U : NodV} {V : MemV} {H : OneV} {W : WkV} {n vol t T : Nat} {x : Nat → Nat} (i : Inv U V H W n vol t T x) (C : CntI V) {l : Nat} (l4 : 4 ≤ l) (l40 : l ≤ 40) {V' : MemV} (k0 : ∀ j, j = 12 ∨ j = 13 ∨ j = 14 → V' 0 j = V 0 j) (kl : V' 0 11 = nI l) (r1 : ∀ j, j < 64 → V' 1 j = if kB V j = true then V 1 j else 0) (r5 : ∀ e, e < 64 → V' 5 e = nI (hcC V' e + hcV V' e)) (row : ∀ q : Fin 12, q = 2 ∨ q = 3 ∨ q = 4 ∨ q = 6 ∨ q = 7 ∨ q = 8 → ∀ j, j < 64 → V' q j = V q j) (row9 : ∀ v, v < 3 → V' 9 v = V 9 v ∧ V' 10 v = V 10 v) : Inv U V' H00 W00 n vol t T (fun _ => 0) ∧ CntI V' := by
  have hN := i.N
  have hM := i.M
  have n60 := hN.n60
  have e2 := row 2 (by decide)
  have e3 := row 3 (by decide)
  have e4 := row 4 (by decide)
  have e6 := row 6 (by decide)
  have e8 := row 8 (by decide)
  have e9 := fun v (hv : v < 3) => (row9 v hv).1
  have e10 := fun v (hv : v < 3) => (row9 v hv).2
  have bk : ∀ e, e < 64 → ¬ V' 1 e = 0 → kB V e = true ∧ V 1 e = 1 ∧ V' 1 e = 1 := fun e he q => by
    rw [r1 e he] at q
    by_cases z : kB V e = true
    · have a := (kB_at hN hM (by omega) z).2.1
      exact ⟨z, a, by rw [r1 e he, if_pos z]; exact a⟩
    · rw [if_neg z] at q; exact absurd rfl q
  have kp : ∀ e, e < 64 → kB V e = true → V' 1 e = 1 := fun e he q => by
    rw [r1 e he, if_pos q]
    exact (kB_at hN hM (by omega) q).2.1
  have n0 : ∀ {z : Int32}, z = 1 → ¬ z = 0 := fun h => by rw [h]; exact i10
  have n2 : ∀ e, e < 64 → ¬ V' 1 e = 2 := fun e he q => by
    have := (bk e he (by rw [q]; decide)).2.2
    rw [q] at this
    exact absurd this (by decide)
  refine ⟨⟨hN, ⟨?_, ?_, ?_, ?_, ?_, ?_, ?_, ?_, ?_, ?_, ?_, ?_⟩, ⟨by rw [k0 12 (by decide)]; exact i.Z.tk, i.Z.tT, i.Z.T30, ?_, ?_, ⟨⟨l, kl, l4, l40⟩, i.Z.tri.le (k0 14 (by decide)) (fun k hk q => n0 (bk k hk q).2.1) (Nat.le_refl _)⟩⟩, ?_, fun h _ => Or.inl rfl, fun k _ q => absurd rfl q⟩, ?_⟩
  · intro e he
    rw [r1 e he]
    split
    · exact hM.st e he
    · exact Or.inl rfl
  · obtain ⟨r, r64, r9⟩ := hM.r0
    exact ⟨r, r64, by rw [e9 0 (by decide)]; exact r9⟩
  · rw [e10 0 (by decide)]; exact hM.o0
  · intro v hv
    rw [e9 v hv, e10 v hv]
    rcases hM.rt v hv with z | ⟨vv, r, r64, q1, q2, q3, q4⟩
    · exact Or.inl z
    · refine Or.inr ⟨vv, r, r64, q1, kp r r64 ((kB_iff V r).mpr ⟨v, hv, Or.inl ?_⟩), by rw [e2 r r64]; exact q3, by rw [e4 r r64]; exact q4⟩
      rw [q1]
      exact mk_self r64 (n0 q2) 63
  · intro v h1 hv q
    rw [e9 v hv] at q
    obtain ⟨o, o64, w1, w2, w3, w4⟩ := hM.ov v h1 hv q
    refine ⟨o, o64, by rw [e10 v hv]; exact w1, kp o o64 ((kB_iff V o).mpr ⟨v, hv, Or.inr ?_⟩), by rw [e2 o o64]; exact w3, by rw [e4 o o64]; exact w4⟩
    rw [w1]
    exact mk_self o64 (n0 w2) 63
  · intro v w hv hw
    rw [e10 v hv, e10 w hw]
    exact hM.oi v w hv hw
  · obtain ⟨ρ, hρ⟩ := hM.vr
    refine ⟨ρ, fun v o k u h1 h2 h3 h4 h5 => ?_⟩
    rw [e10 v h2] at h4
    rw [e4 o h3] at h5
    exact hρ v o k u h1 h2 h3 h4 h5
  · intro e he q1 q2
    rw [e2 e he] at q2
    obtain ⟨v, hv, q3⟩ := hM.ro e he (bk e he (n0 q1)).2.1 q2
    exact ⟨v, hv, by rw [e9 v hv]; exact q3⟩
  · intro e he q1 q2
    rw [e2 e he] at q2
    obtain ⟨b1, b2, _⟩ := bk e he (n0 q1)
    obtain ⟨p, p64, y2, y3, y4, y5⟩ := hM.ch e he b2 q2
    exact ⟨p, p64, by rw [e2 e he]; exact y2, kp p p64 (kB_par hN hM he y2 p64 (n0 y3) b1), by rw [e4 p p64]; exact y4, by rw [e4 e he, e4 p p64, e3 e he]; exact y5⟩
  · intro e he q
    exact absurd q (n2 e he)
  · intro e f he hf q1 q2 q3 q4 q5
    rw [e2 e he] at q3
    rw [e2 e he, e2 f hf] at q4
    rw [e3 e he, e3 f hf] at q5
    exact hM.sb e f he hf (bk e he (n0 q1)).2.1 (bk f hf (n0 q2)).2.1 q3 q4 q5
  · intro e f he hf q1 q2 q3 q4
    rw [e4 e he] at q3
    rw [e4 e he, e4 f hf] at q4
    exact hM.nd e f he hf (n0 (bk e he q1).2.1) (n0 (bk f hf q2).2.1) q3 q4
  · intro e he q
    rw [e8 e he]
    exact i.Z.bi e he (n0 (bk e he q).2.1)
  · intro e he q
    rw [e6 e he]
    exact i.Z.co e he (n0 (bk e he q).2.1)
  · intro e he
    refine ⟨fun _ => rfl, (show (0 : Nat) ≤ 100 by decide), fun q => ⟨?_, fun w => absurd w (n2 e he)⟩⟩
    rw [hc00 V' he, Nat.add_zero]
    exact r5 e he
  · unfold CntI at C ⊢
    have e : cnt (fun v => decide (¬ V' 9 v = -1)) 1 2 = cnt (fun v => decide (¬ V 9 v = -1)) 1 2 := cnt_cong (fun v _ hv => by rw [e9 v (by omega)])
    rw [e]
    refine Nat.le_trans (cnt_mono (fun k _ hk q => ?_)) C
    simp only [decide_eq_true_eq] at q ⊢
    exact n0 (bk k (by omega) q).2.1
theorem Rel.bare {U : NodV} {V V' : MemV} {H : OneV} {W : WkV} {D D' : RowV} {n : Nat} (r : Rel none U V H W D n) (n60 : n ≤ 60) {room : Int32} (k0 : ∀ j, j = 12 ∨ j = 13 ∨ j = 14 → V' 0 j = V 0 j) (kl : V' 0 11 = room) (r1 : ∀ j, j < 64 → V' 1 j = if kB V j = true then V 1 j else 0) (row : ∀ q : Fin 12, q = 2 ∨ q = 3 ∨ q = 4 ∨ q = 6 ∨ q = 7 ∨ q = 8 → ∀ j, j < 64 → V' q j = V q j) (row9 : ∀ v, v < 3 → V' 9 v = V 9 v ∧ V' 10 v = V 10 v) (d0 : ∀ e, e < 128 → D' (701 + 9 * e + 0) = if e < 64 ∧ ¬ V 1 e = 0 ∧ kB V e = true then 1 else 0) (d3 : D' 3 = room) (dh : ∀ k, k < 6 → D' (11 + k) = -1) (dw : ∀ k, k < 4 → D' (17 + 96 * k + 0) = 0) (dk : ∀ j, (∀ e, e < 128 → j ≠ 701 + 9 * e + 0) → j ≠ 3 → (j < 11 ∨ 17 ≤ j) → (∀ k, k < 4 → j ≠ 17 + 96 * k + 0) → D' j = D j) : Rel none U V' H00 W00 D' n := by
  have b := r.B
  have o : ∀ j, (j < 11 ∧ j ≠ 3) ∨ (401 ≤ j ∧ j < 701) → D' j = D j := fun j h => dk j (fun e _ => by omega) (by omega) (by omega) (fun k _ => by omega)
  have oe : ∀ e f, e < 128 → 1 ≤ f → f < 9 → D' (701 + 9 * e + f) = D (701 + 9 * e + f) := fun e f he h1 h2 => dk _ (fun e' _ => by omega) (by omega) (by omega) (fun k _ => by omega)
  have cov : ∀ y, q_X1_coveringVolume V' y = q_X1_coveringVolume V y := fun y => by
    show oI (f_X1_coveringVolume V' y) = oI (f_X1_coveringVolume V y)
    congr 1
    exact fst_cong (fun v _ hv => by rw [(row9 v (by omega)).2])
  refine ⟨⟨?_, ?_, ?_, ?_, ?_, ?_, ?_, ?_, ?_, ?_, ?_⟩, fun k hk => ⟨?_, fun q => absurd rfl q, fun q => absurd rfl q, fun q => absurd rfl q⟩, fun k _ q => absurd rfl q, fun k q => by cases q⟩
  · rw [o 0 (by omega), k0 12 (by decide)]; exact b.tk
  · rw [o 1 (by omega), k0 13 (by decide)]; exact b.lo
  · rw [o 2 (by omega), k0 14 (by decide)]; exact b.tr
  · rw [d3, kl]
  · rw [o 4 (by omega)]; exact b.ev
  · intro v hv
    rw [o _ (by omega), (row9 v (by omega)).1]; exact b.rt v hv
  · intro v hv
    rw [o _ (by omega), (row9 v (by omega)).2]; exact b.ov v hv
  · intro k hk
    rw [dh k hk]; rfl
  · intro k hk
    rw [o _ (by omega), o _ (by omega), o _ (by omega), o _ (by omega), o _ (by omega)]
    exact b.nd k hk
  · intro e he
    rw [d0 e he]
    by_cases e64 : e < 64
    · rw [r1 e e64]
      by_cases z : kB V e = true
      · rw [if_pos z]
        by_cases w : V 1 e = 0
        · rw [if_neg (fun q => q.2.1 w), if_neg (fun q => q.2 w)]
        · rw [if_pos ⟨e64, w, z⟩, if_pos ⟨e64, w⟩]
      · rw [if_neg z, if_neg (fun q => z q.2.2), if_neg (fun q => q.2 rfl)]
    · rw [if_neg (fun q => e64 q.1), if_neg (fun q => e64 q.1)]
  · intro e he q
    rw [r1 e he] at q
    by_cases z : kB V e = true
    · rw [if_pos z] at q
      rw [oe e 1 (by omega) (by decide) (by decide), oe e 2 (by omega) (by decide) (by decide), oe e 3 (by omega) (by decide) (by decide), oe e 4 (by omega) (by decide) (by decide), oe e 5 (by omega) (by decide) (by decide), oe e 6 (by omega) (by decide) (by decide), oe e 7 (by omega) (by decide) (by decide), oe e 8 (by omega) (by decide) (by decide), row 2 (by decide) e he, row 3 (by decide) e he, row 4 (by decide) e he, row 6 (by decide) e he, row 7 (by decide) e he, row 8 (by decide) e he, cov, r1 e he, if_pos z]
      exact b.en e he q
    · rw [if_neg z] at q; exact absurd rfl q
  · rw [dw k hk]; rfl
end
section
/-! Mounts alone: the reference's loops. -/
theorem RefL.f30 {J : MJ} (h : RefL J) (I : MI) : fR (I, J) 10 188 30 = some (some 200) := by rw [fR_ok 30 h.k, h.r30]
def cf (Y : MI) (A D : RowV) : MI := fun a j => if a = 194 then D j else if a = 200 then A j else Y a j
theorem cf_D (Y : MI) (A D : RowV) : cf Y A D 194 = D := by
  funext j
  exact if_pos rfl
theorem cf_A (Y : MI) (A D : RowV) : cf Y A D 200 = A := by
  funext j
  unfold cf
  rw [if_neg (by decide), if_pos rfl]
theorem cf_o (Y : MI) (A D : RowV) {a : Nat} (h1 : a ≠ 194) (h2 : a ≠ 200) : cf Y A D a = Y a := by
  funext j
  unfold cf
  rw [if_neg h1, if_neg h2]
theorem cf_sD (Y : MI) (A D : RowV) (i : Nat) (v : Int32) : up2 (cf Y A D) 194 i v = cf Y A (sD D i v) := by
  funext a j
  unfold up2 cf sD
  by_cases h : a = 194
  · subst h
    simp
  · simp [h]
theorem cf_sA (Y : MI) (A D : RowV) (i : Nat) (v : Int32) : up2 (cf Y A D) 200 i v = cf Y (sD A i v) D := by
  funext a j
  unfold up2 cf sD
  by_cases h : a = 200
  · subst h
    simp
  · simp [h]
theorem cf_id (Y : MI) : cf Y (Y 200) (Y 194) = Y := by
  funext a j
  unfold cf
  by_cases h : a = 194
  · rw [if_pos h, h]
  · rw [if_neg h]
    by_cases h2 : a = 200
    · rw [if_pos h2, h2]
    · rw [if_neg h2]
/-- one that goes, at first -/
def goQ0 (D : RowV) (k : Nat) : Int32 := if D (701 + 9 * k + 0) = 1 ∧ ¬ rtB D (nI k) = true then 1 else 0
theorem clears1 {J : MJ} (h : RefL J) (Y : MI) (D : RowV) (x1 : Int32) (A : RowV) : Ev T_X10_clears 2 [some (mR (some 188)), some (mI x1), some (mI 0), none] [] (cf Y A D, J) = Ev T_X10_clears 46 [some (mR (some 188)), some (mI x1), some (mI 1), none] [] (cf Y (itr (fun k A => sD A (0 + k) (goQ0 D k)) 0 128 A) D, J) := by
  have nb1 : vp_nar .boolean 1 = 1 := rfl
  have nb0 : vp_nar .boolean 0 = 0 := rfl
  have s1 := loop_all (fun k A => Ev T_X10_clears 2 [some (mR (some 188)), some (mI x1), some (mI (nI k)), none] [] (cf Y A D, J)) (fun k A => sD A (0 + k) (goQ0 D k)) 128 A (fun k A hk => by
    try dsimp only
    rw [E_X10_clears_2, if_neg (show ¬ (128 : Int32) ≤ nI k from nI_ge (b := 128) hk (by decide))]
    simp only [h.f30, Option.bind_some, h.kt, if_true, w_its h _ 0 (show (0 : Int32) = nI 0 from rfl) hk (by decide), asI_I, cf_D, w_isRootB h, nb1, nb0, stx h.s30 hk (by decide) rfl, cf_sA, nI_1, Nat.zero_add]
    unfold goQ0
    by_cases a : D (701 + 9 * k + 0) = 1
    · rw [if_pos a]
      by_cases b : rtB D (nI k) = true
      · rw [if_pos b, if_neg i10, if_neg (fun z => z.2 b)]
      · rw [if_neg b, if_pos rfl, if_pos ⟨a, b⟩]
    · rw [if_neg a, if_neg (fun z => a z.1)])
  try dsimp only at s1
  rw [show (nI 0) = 0 from rfl] at s1
  rw [s1, E_X10_clears_2, if_pos (show (128 : Int32) ≤ nI 128 by decide)]
theorem clears_up {U : NodV} {V : MemV} {H : OneV} {W : WkV} {n vol : Nat} (hN : NodI U n vol) (hM : MemI U V n vol) {J : MJ} (h : RefL J) (Y : MI) {D : RowV} (r : Rel none U V H W D n) {d : Nat → Nat} (hd : ∀ k p, k < n → p < n → ¬ U 4 k = 0 → U 2 k = nI p → d p < d k) (x1 x2 : Int32) : ∀ (f g k : Nat) (A : RowV), At V g → V 4 g = nI k → k < n → rkc d n k < f → ∃ A', Ev T_X10_clears 80 [some (mR (some 188)), some (mI x1), some (mI x2), some (mI (nI g))] [] (cf Y A D, J) = Ev T_X10_clears 46 [some (mR (some 188)), some (mI x1), some (mI (x2 + 1)), none] [] (cf Y A' D, J) ∧ ∀ j, j < 128 → A' j = if mkB V f (nI g) j = true then 0 else A j := by
  have n60 := hN.n60
  have nb0 : vp_nar .boolean 0 = 0 := rfl
  intro f
  induction f with
  | zero => intro g k A _ _ _ hr; omega
  | succ f ih =>
    intro g k A hg g4 kn hr
    have g64 := hg.1
    have g0 : ¬ V 1 g = 0 := by rw [hg.2.1]; exact i10
    have mk : ∀ j, j < 128 → mkB V (f + 1) (nI g) j = if g = j then true else mkB V f (V 2 g) j := fun j hj => by
      rw [mkB_s, Inv.isE g64 g0, if_neg i10, ix_nI (by omega)]
      by_cases z : g = j
      · rw [if_pos z, if_pos (by rw [z])]
      · rw [if_neg z, if_neg (fun w => z ((nI_eq (by omega) (by omega)).mp w))]
    have st : Ev T_X10_clears 80 [some (mR (some 188)), some (mI x1), some (mI x2), some (mI (nI g))] [] (cf Y A D, J) = Ev T_X10_clears 80 [some (mR (some 188)), some (mI x1), some (mI x2), some (mI (V 2 g))] [] (cf Y (sD A g 0) D, J) := by
      rw [E_X10_clears_80, if_neg (nI_m1 (show g < 2 ^ 31 by omega))]
      simp only [h.f30, Option.bind_some, nb0, stx h.s30 (show g < 128 by omega) (by decide) rfl, cf_sA, h.kt, if_true, w_its h _ 1 (show (1 : Int32) = nI 1 from rfl) (show g < 128 by omega) (by decide), asI_I, cf_D, (r.B.en g g64 g0).1]
    rw [st]
    by_cases w : V 2 g = -1
    · refine ⟨sD A g 0, ?_, fun j hj => ?_⟩
      · rw [w, E_X10_clears_80, if_pos rfl]
      · rw [mk j hj, w, mk_m1]
        by_cases z : g = j
        · rw [if_pos z, if_pos rfl, z, sD_s]
        · rw [if_neg z, if_neg (by decide), sD_n _ _ (fun q => z q.symm)]
    · obtain ⟨p, kp, p64, p2, p1, kpn, kp4, u2, _, u4, _⟩ := hM.up hN g64 hg.2.1 w g4 kn
      have := rkc_lt (n := n) kpn (hd k kp kn kpn u4 u2)
      obtain ⟨A', a1, a2⟩ := ih p kp (sD A g 0) ⟨p64, p1, by rw [kp4]; exact nI_m1 (by omega)⟩ kp4 kpn (by omega)
      refine ⟨A', by rw [p2]; exact a1, fun j hj => ?_⟩
      rw [a2 j hj, mk j hj, p2]
      by_cases z : g = j
      · rw [if_pos z, if_pos rfl, z, sD_s]
        split <;> rfl
      · rw [if_neg z, sD_n _ _ (fun q => z q.symm)]
def anB (V : MemV) : Nat → Nat → Nat → Bool
  | _, 0, _ => false
  | k, n + 1, j => mkB V 64 (V 10 k) j || anB V (k + 1) n j
theorem anB_iff (V : MemV) (j : Nat) : ∀ n k, anB V k n j = true ↔ ∃ v, k ≤ v ∧ v < k + n ∧ mkB V 64 (V 10 v) j = true
  | 0, k => by
    constructor
    · intro h
      cases h
    · rintro ⟨v, a, b, _⟩
      omega
  | n + 1, k => by
    show (mkB V 64 (V 10 k) j || anB V (k + 1) n j) = true ↔ _
    rw [Bool.or_eq_true, anB_iff V j n (k + 1)]
    constructor
    · rintro (a | ⟨v, b, c, e⟩)
      · exact ⟨k, Nat.le_refl _, by omega, a⟩
      · exact ⟨v, by omega, by omega, e⟩
    · rintro ⟨v, b, c, e⟩
      by_cases z : v = k
      · rw [z] at e; exact Or.inl e
      · exact Or.inr ⟨v, by omega, by omega, e⟩
theorem clears2 {U : NodV} {V : MemV} {H : OneV} {W : WkV} {n vol : Nat} (hN : NodI U n vol) (hM : MemI U V n vol) {J : MJ} (h : RefL J) (Y : MI) {D : RowV} (r : Rel none U V H W D n) (y11 : Y 188 11 = nI vol) (x1 : Int32) : ∀ (nn v : Nat) (A : RowV), v + nn = vol → 1 ≤ v → ∃ A', Ev T_X10_clears 46 [some (mR (some 188)), some (mI x1), some (mI (nI v)), none] [] (cf Y A D, J) = Ev T_X10_clears 110 [some (mR (some 188)), some (mI x1), some (mI 0), none] [] (cf Y A' D, J) ∧ ∀ j, j < 128 → A' j = if anB V v nn j = true then 0 else A j := by
  have n60 := hN.n60
  have v3 := hN.v3
  have c11 : ∀ A, cf Y A D 188 11 = nI vol := fun A => by rw [cf_o _ _ _ (by decide) (by decide)]; exact y11
  obtain ⟨d, hd⟩ := hN.rk
  intro nn
  induction nn with
  | zero =>
    intro v A hv v1
    refine ⟨A, ?_, fun j _ => by rw [if_neg (show ¬ anB V v 0 j = true from fun q => by cases q)]⟩
    rw [E_X10_clears_46]
    simp only [h.fi, c11, Option.bind_some, if_pos (nI_le (show vol ≤ v by omega) (by omega))]
  | succ nn ih =>
    intro v A hv v1
    have an : ∀ j, anB V v (nn + 1) j = (mkB V 64 (V 10 v) j || anB V (v + 1) nn j) := fun _ => rfl
    have e5 : (5 : Int32) + nI v = nI (5 + v) := nI_add 5 v
    have e8 : (8 : Int32) + nI v = nI (8 + v) := nI_add 8 v
    obtain ⟨b1, b2⟩ := hM.bg hN (show v < 3 by omega)
    have st : Ev T_X10_clears 46 [some (mR (some 188)), some (mI x1), some (mI (nI v)), none] [] (cf Y A D, J) = if V 9 v = -1 then Ev T_X10_clears 80 [some (mR (some 188)), some (mI x1), some (mI (nI v)), some (mI (-1))] [] (cf Y A D, J) else Ev T_X10_clears 80 [some (mR (some 188)), some (mI x1), some (mI (nI v)), some (mI (V 10 v))] [] (cf Y A D, J) := by
      rw [E_X10_clears_46]
      simp only [h.fi, c11, Option.bind_some, if_neg (nI_ge (show v < vol by omega) (by omega)), h.f18, h.ldD _ e5 (show 5 + v < 1853 by omega), h.ldD _ e8 (show 8 + v < 1853 by omega), cf_D, r.B.rt v (by omega), r.B.ov v (by omega)]
    have dead : Ev T_X10_clears 80 [some (mR (some 188)), some (mI x1), some (mI (nI v)), some (mI (-1))] [] (cf Y A D, J) = Ev T_X10_clears 46 [some (mR (some 188)), some (mI x1), some (mI (nI (v + 1))), none] [] (cf Y A D, J) := by
      rw [E_X10_clears_80, if_pos rfl, nI_1]
    rcases b2 with z | ⟨g, z, ga, _, _⟩
    · obtain ⟨A', a1, a2⟩ := ih (v + 1) A (by omega) (by omega)
      refine ⟨A', ?_, fun j hj => ?_⟩
      · rw [st, z, ite_self, dead, a1]
      · rw [a2 j hj, an, z, mk_m1, Bool.false_or]
    · obtain ⟨k, kn, ke, _⟩ := hM.nk hN ga
      have rk := rkc_le d n k
      obtain ⟨A1, c1, c2⟩ := clears_up hN hM h Y r hd x1 (nI v) 64 g k A ga ke kn (by omega)
      obtain ⟨A', a1, a2⟩ := ih (v + 1) A1 (by omega) (by omega)
      have m9 : ¬ V 9 v = -1 := (hM.ok (show v < 3 by omega) ga.1 z).2.1
      refine ⟨A', ?_, fun j hj => ?_⟩
      · rw [st, if_neg m9, z, c1, nI_1, a1]
      · rw [a2 j hj, c2 j hj, an, z]
        by_cases x : mkB V 64 (nI g) j = true
        · rw [if_pos x, x, Bool.true_or, if_pos rfl]
          split <;> rfl
        · have x' : mkB V 64 (nI g) j = false := by simpa using x
          rw [if_neg x, x', Bool.false_or]
def clD (A : RowV) (k : Nat) (D : RowV) : RowV := if A k = 0 then D else sD D (701 + 9 * k + 0) 0
theorem clD_q (A : RowV) : ∀ (nn k : Nat) (D : RowV), (∀ j, (∀ e, k ≤ e → e < k + nn → j ≠ 701 + 9 * e + 0) → itr (clD A) k nn D j = D j) ∧ ∀ e, k ≤ e → e < k + nn → itr (clD A) k nn D (701 + 9 * e + 0) = if A e = 0 then D (701 + 9 * e + 0) else 0
  | 0, k, D => ⟨fun j _ => rfl, fun e a b => by omega⟩
  | nn + 1, k, D => by
    have e1 : itr (clD A) k (nn + 1) D = itr (clD A) (k + 1) nn (clD A k D) := rfl
    obtain ⟨g1, g2⟩ := clD_q A nn (k + 1) (clD A k D)
    have u : ∀ j, j ≠ 701 + 9 * k + 0 → clD A k D j = D j := fun j hj => by
      unfold clD
      split
      · rfl
      · exact sD_n _ _ hj
    have u1 : clD A k D (701 + 9 * k + 0) = if A k = 0 then D (701 + 9 * k + 0) else 0 := by
      unfold clD
      split
      · rfl
      · exact sD_s _ _ _
    refine ⟨fun j hj => by rw [e1, g1 j (fun e a b => hj e (by omega) (by omega)), u j (hj k (Nat.le_refl _) (by omega))], fun e a b => ?_⟩
    by_cases z : e = k
    · subst z
      rw [e1, g1 _ (fun e' a' _ => by omega), u1]
    · rw [e1, g2 e (by omega) (by omega), u _ (by omega)]
theorem w_clears {U : NodV} {V : MemV} {H : OneV} {W : WkV} {n vol : Nat} (hN : NodI U n vol) (hM : MemI U V n vol) {J : MJ} (h : RefL J) (Y : MI) (r : Rel none U V H W (Y 194) n) (y11 : Y 188 11 = nI vol) (room : Int32) : ∃ A' D', M_X10_clears [mR (some 188), mI room] (Y, J) = some (none, (cf Y A' D', J)) ∧ (∀ e, e < 128 → D' (701 + 9 * e + 0) = if e < 64 ∧ ¬ V 1 e = 0 ∧ kB V e = true then 1 else 0) ∧ D' 3 = room ∧ (∀ k, k < 6 → D' (11 + k) = -1) ∧ (∀ k, k < 4 → D' (17 + 96 * k + 0) = 0) ∧ ∀ j, (∀ e, e < 128 → j ≠ 701 + 9 * e + 0) → j ≠ 3 → (j < 11 ∨ 17 ≤ j) → (∀ k, k < 4 → j ≠ 17 + 96 * k + 0) → D' j = Y 194 j := by
  have v3 := hN.v3
  have s1 := clears1 h Y (Y 194) room (Y 200)
  rw [cf_id] at s1
  have a1 : ∀ j, j < 128 → itr (fun k A => sD A (0 + k) (goQ0 (Y 194) k)) 0 128 (Y 200) j = goQ0 (Y 194) j := fun j hj => by
    rw [itr_sD 0 (goQ0 (Y 194)), if_pos (by omega)]
    rfl
  generalize itr (fun k A => sD A (0 + k) (goQ0 (Y 194) k)) 0 128 (Y 200) = A1 at s1 a1
  obtain ⟨A2, s2, a2⟩ := clears2 hN hM h Y r y11 room (vol - 1) 1 A1 (by omega) (by omega)
  rw [show (nI 1) = 1 from rfl] at s2
  have s3 := loop_all (fun k D => Ev T_X10_clears 110 [some (mR (some 188)), some (mI room), some (mI (nI k)), none] [] (cf Y A2 D, J)) (clD A2) 128 (Y 194) (fun k D hk => by
    try dsimp only
    rw [E_X10_clears_110, if_neg (show ¬ (128 : Int32) ≤ nI k from nI_ge (b := 128) hk (by decide))]
    simp only [h.f30, Option.bind_some, ldx h.s30 hk (by decide) rfl, cf_A, h.f18, w_entryAt _ k 0 (show (0 : Int32) = nI 0 from rfl), asI_I, h.stD _ _ (show nI (701 + 9 * k + 0) = nI (701 + 9 * k + 0) from rfl) (show 701 + 9 * k + 0 < 1853 by omega), cf_sD, nI_1]
    unfold clD
    by_cases z : A2 k = 0
    · rw [if_pos z, if_pos z]
    · rw [if_neg z, if_neg z])
  try dsimp only at s3
  rw [show (nI 0) = 0 from rfl] at s3
  obtain ⟨c1, c2⟩ := clD_q A2 128 0 (Y 194)
  generalize itr (clD A2) 0 128 (Y 194) = D3 at s3 c1 c2
  have s4 := loop_all (fun k D => Ev T_X10_clears 145 [some (mR (some 188)), some (mI room), some (mI (nI k)), none] [] (cf Y A2 D, J)) (fun k D => sD D (11 + k) ((fun _ => (-1 : Int32)) k)) 6 D3 (fun k D hk => by
    try dsimp only
    rw [E_X10_clears_145, if_neg (show ¬ (6 : Int32) ≤ nI k from nI_ge (b := 6) hk (by decide))]
    have e11 : (11 : Int32) + nI k = nI (11 + k) := nI_add 11 k
    simp only [Option.bind_some, h.f18, h.stD _ _ e11 (show 11 + k < 1853 by omega), cf_sD, nI_1])
  try dsimp only at s4
  rw [show (nI 0) = 0 from rfl] at s4
  have d4 := fun j => itr_sD 11 (fun _ => (-1 : Int32)) 6 0 D3 j
  generalize itr (fun k D => sD D (11 + k) (-1)) 0 6 D3 = D4 at s4 d4
  refine ⟨A2, sD (sD (sD (sD (sD D4 17 0) 113 0) 209 0) 305 0) 3 room, ?_, fun e he => ?_, sD_s _ _ _, fun k hk => ?_, fun k hk => ?_, fun j h1 h2 h3 h4 => ?_⟩
  · rw [E_X10_clears, s1, s2, s3, E_X10_clears_110, if_pos (show (128 : Int32) ≤ nI 128 by decide), s4, E_X10_clears_145, if_pos (show (6 : Int32) ≤ nI 6 by decide)]
    have wk : ∀ (D : RowV) (k : Nat), k < 4 → Ev T_X10_clears 169 [some (mR (some 188)), some (mI room), some (mI (nI k)), none] [] (cf Y A2 D, J) = Ev T_X10_clears 169 [some (mR (some 188)), some (mI room), some (mI (nI (k + 1))), none] [] (cf Y A2 (sD D (17 + 96 * k + 0) 0), J) := fun D k hk => by
      rw [E_X10_clears_169, if_neg (show ¬ (4 : Int32) ≤ nI k from nI_ge (b := 4) hk (by decide))]
      simp only [Option.bind_some, h.f18, w_walkerAt _ k 0 (show (0 : Int32) = nI 0 from rfl), asI_I, h.stD _ _ (show nI (17 + 96 * k + 0) = nI (17 + 96 * k + 0) from rfl) (show 17 + 96 * k + 0 < 1853 by omega), cf_sD, nI_1]
    have w0 := wk D4 0 (by decide)
    rw [show (nI 0) = 0 from rfl] at w0
    rw [w0, wk _ 1 (by decide), wk _ 2 (by decide), wk _ 3 (by decide), E_X10_clears_169, if_pos (show (4 : Int32) ≤ nI (3 + 1) by decide)]
    simp only [Option.bind_some, h.f18, h.stD _ _ (show (3 : Int32) = nI 3 from rfl) (show 3 < 1853 by decide), cf_sD]
  · rw [sD_n _ _ (by omega), sD_n _ _ (by omega), sD_n _ _ (by omega), sD_n _ _ (by omega), sD_n _ _ (by omega), d4, if_neg (by omega), c2 e (by omega) (by omega), a2 e he, a1 e he, r.B.th e he]
    by_cases e64 : e < 64
    · by_cases w : V 1 e = 0
      · rw [if_neg (show ¬ (e < 64 ∧ ¬ V 1 e = 0) from fun q => q.2 w), if_neg (show ¬ (e < 64 ∧ ¬ V 1 e = 0 ∧ kB V e = true) from fun q => q.2.1 w), ite_self]
      · rw [if_pos (show e < 64 ∧ ¬ V 1 e = 0 from ⟨e64, w⟩)]
        have iff : (rtB (Y 194) (nI e) = true ∨ anB V 1 (vol - 1) e = true) ↔ kB V e = true := by
          rw [kB_iff, r.eqr, anB_iff]
          constructor
          · rintro (⟨v, hv, q⟩ | ⟨v, a, b, q⟩)
            · refine ⟨v, hv, Or.inl ?_⟩
              rw [q]
              exact mk_self e64 w 63
            · exact ⟨v, by omega, Or.inr q⟩
          · rintro ⟨v, hv, q⟩
            obtain ⟨b1, b2⟩ := hM.bg hN hv
            rcases q with q | q
            · rcases b1 with z | ⟨g, z, ga, g2⟩
              · rw [z, mk_m1] at q; cases q
              · rw [z, mkB_s, ix_nI (by have := ga.1; omega), g2, mk_m1] at q
                refine Or.inl ⟨v, hv, ?_⟩
                by_cases x : nI g = nI e
                · rw [z, x]
                · rw [if_neg x, ite_self] at q; cases q
            · rcases b2 with z | ⟨g, z, ga, g1, g2⟩
              · rw [z, mk_m1] at q; cases q
              · exact Or.inr ⟨v, g1, by omega, q⟩
        have g0 : goQ0 (Y 194) e = if rtB (Y 194) (nI e) = true then 0 else 1 := by
          unfold goQ0
          rw [r.B.th e he, if_pos (show e < 64 ∧ ¬ V 1 e = 0 from ⟨e64, w⟩)]
          by_cases x : rtB (Y 194) (nI e) = true
          · rw [if_pos x, if_neg (fun q => q.2 x)]
          · rw [if_neg x, if_pos ⟨rfl, x⟩]
        rw [g0]
        by_cases x : anB V 1 (vol - 1) e = true
        · rw [if_pos x, if_pos rfl, if_pos ⟨e64, w, iff.mp (Or.inr x)⟩]
        · rw [if_neg x]
          by_cases y : rtB (Y 194) (nI e) = true
          · rw [if_pos y, if_pos rfl, if_pos ⟨e64, w, iff.mp (Or.inl y)⟩]
          · rw [if_neg y, if_neg i10, if_neg (fun q => (iff.mpr q.2.2).elim y x)]
    · rw [if_neg (show ¬ (e < 64 ∧ ¬ V 1 e = 0) from fun q => e64 q.1), if_neg (show ¬ (e < 64 ∧ ¬ V 1 e = 0 ∧ kB V e = true) from fun q => e64 q.1), ite_self]
  · rw [sD_n _ _ (by omega), sD_n _ _ (by omega), sD_n _ _ (by omega), sD_n _ _ (by omega), sD_n _ _ (by omega), d4, if_pos (by omega)]
  · rw [sD_n _ _ (by omega)]
    rcases (show k = 0 ∨ k = 1 ∨ k = 2 ∨ k = 3 by omega) with z | z | z | z
    · subst z
      rw [sD_n _ _ (by decide), sD_n _ _ (by decide), sD_n _ _ (by decide)]
      exact sD_s _ _ _
    · subst z
      rw [sD_n _ _ (by decide), sD_n _ _ (by decide)]
      exact sD_s _ _ _
    · subst z
      rw [sD_n _ _ (by decide)]
      exact sD_s _ _ _
    · subst z
      exact sD_s _ _ _
  · have h40 := h4 0 (by decide)
    have h41 := h4 1 (by decide)
    have h42 := h4 2 (by decide)
    have h43 := h4 3 (by decide)
    rw [sD_n _ _ h2, sD_n _ _ (by omega), sD_n _ _ (by omega), sD_n _ _ (by omega), sD_n _ _ (by omega), d4, if_neg (by omega), c1 j (fun e _ b => h1 e (by omega))]
end
section
/-! More room changes nothing where nothing had to be given up. -/
def lm (V : MemV) (L : Int32) : MemV := uv V 0 11 L
theorem lm_q (V : MemV) (L : Int32) {q : Fin 12} (h : q ≠ 0) : lm V L q = V q := uv_k _ _ _ _ _ h
theorem lm_0 (V : MemV) (L : Int32) {j : Nat} (h : j ≠ 11) : lm V L 0 j = V 0 j := uv_n _ _ _ _ _ _ (fun q => h q.2)
theorem lm_11 (V : MemV) (L : Int32) : lm V L 0 11 = L := uv_s _ _ _ _
theorem lm_s (V : MemV) (L : Int32) {q : Fin 12} {j : Nat} (v : Int32) (h : ¬ (q = 0 ∧ j = 11)) : uv (lm V L) q j v = lm (uv V q j v) L := by
  funext k i
  unfold lm uv
  by_cases a : k = q ∧ i = j
  · rw [if_pos a, if_neg (fun z => h ⟨a.1.symm.trans z.1, a.2.symm.trans z.2⟩), if_pos a]
  · by_cases b : k = 0 ∧ i = 11
    · rw [if_neg a, if_pos b, if_pos b]
    · rw [if_neg a, if_neg b, if_neg b, if_neg a]
theorem lm_ite (c : Prop) [Decidable c] (A B : MemV) (L : Int32) : lm (if c then A else B) L = if c then lm A L else lm B L := by split <;> rfl
theorem lm_come (V : MemV) (L x : Int32) : gV_X1_comeTo (lm V L) x = lm (gV_X1_comeTo V x) L := by
  have s7 : ∀ A j v, uv (lm A L) 7 j v = lm (uv A 7 j v) L := fun A j v => lm_s A L v (by simp)
  have s12 : ∀ A v, uv (lm A L) 0 12 v = lm (uv A 0 12 v) L := fun A v => lm_s A L v (by simp)
  have s11 : ∀ A j v, uv (lm A L) 11 j v = lm (uv A 11 j v) L := fun A j v => lm_s A L v (by simp)
  have s16 : ∀ A v, uv (lm A L) 0 16 v = lm (uv A 0 16 v) L := fun A v => lm_s A L v (by simp)
  unfold gV_X1_comeTo
  simp only [lm_0 V L (show (16 : Nat) ≠ 11 by decide), lm_0 V L (show (12 : Nat) ≠ 11 by decide), s7, s12, s11, s16, lm_ite]
theorem lm_hold (V : MemV) (L x : Int32) : gV_X1_hold (lm V L) x = lm (gV_X1_hold V x) L := by
  have s5 : ∀ A j v, uv (lm A L) 5 j v = lm (uv A 5 j v) L := fun A j v => lm_s A L v (by simp)
  unfold gV_X1_hold
  simp only [lm_q V L (show (5 : Fin 12) ≠ 0 by decide), s5, lm_ite]
theorem lm_lu (V : MemV) (L : Int32) : q_X1_leastUnused (lm V L) = q_X1_leastUnused V := by
  unfold q_X1_leastUnused ql_X1_leastUnused f_X1_leastUnused
  rw [lm_q V L (show (1 : Fin 12) ≠ 0 by decide)]
theorem lm_isE (V : MemV) (L x : Int32) : q_X1_isEntry (lm V L) x = q_X1_isEntry V x := isE_cg (lm_q V L (by decide)) x
theorem lm_find (V : MemV) (L x y : Int32) : q_X1_find (lm V L) x y = q_X1_find V x y := by
  unfold q_X1_find ql_X1_find f_X1_find
  rw [lm_isE, lm_q V L (show (1 : Fin 12) ≠ 0 by decide), lm_q V L (show (2 : Fin 12) ≠ 0 by decide), lm_q V L (show (3 : Fin 12) ≠ 0 by decide)]
theorem lm_node (V : MemV) (L x : Int32) : q_X1_nodeOf (lm V L) x = q_X1_nodeOf V x := by
  unfold q_X1_nodeOf
  rw [lm_isE, lm_q V L (show (4 : Fin 12) ≠ 0 by decide)]
theorem lm_fold (U : NodV) (V : MemV) (L x : Int32) : q_X1_isFolder U (lm V L) x = q_X1_isFolder U V x := by
  unfold q_X1_isFolder
  rw [lm_isE, lm_q V L (show (4 : Fin 12) ≠ 0 by decide)]
theorem lm_rv (V : MemV) (L x : Int32) : q_X1_rootVolume (lm V L) x = q_X1_rootVolume V x := by
  unfold q_X1_rootVolume ql_X1_rootVolume f_X1_rootVolume
  rw [lm_q V L (show (9 : Fin 12) ≠ 0 by decide)]
theorem lm_cv (V : MemV) (L x : Int32) : q_X1_coveringVolume (lm V L) x = q_X1_coveringVolume V x := by
  unfold q_X1_coveringVolume ql_X1_coveringVolume f_X1_coveringVolume
  rw [lm_q V L (show (10 : Fin 12) ≠ 0 by decide)]
theorem lm_cb (V : MemV) (L x : Int32) : q_X1_coveredBy (lm V L) x = q_X1_coveredBy V x := by
  unfold q_X1_coveredBy
  rw [lm_q V L (show (10 : Fin 12) ≠ 0 by decide)]
theorem lm_add (V : MemV) (L x y z : Int32) : gV_X1_add (lm V L) x y z = lm (gV_X1_add V x y z) L ∧ q_X1_add (lm V L) x y z = q_X1_add V x y z := by
  have s1 : ∀ A j v, uv (lm A L) 1 j v = lm (uv A 1 j v) L := fun A j v => lm_s A L v (by simp)
  have s2 : ∀ A j v, uv (lm A L) 2 j v = lm (uv A 2 j v) L := fun A j v => lm_s A L v (by simp)
  have s3 : ∀ A j v, uv (lm A L) 3 j v = lm (uv A 3 j v) L := fun A j v => lm_s A L v (by simp)
  have s4 : ∀ A j v, uv (lm A L) 4 j v = lm (uv A 4 j v) L := fun A j v => lm_s A L v (by simp)
  have s5 : ∀ A j v, uv (lm A L) 5 j v = lm (uv A 5 j v) L := fun A j v => lm_s A L v (by simp)
  have s6 : ∀ A j v, uv (lm A L) 6 j v = lm (uv A 6 j v) L := fun A j v => lm_s A L v (by simp)
  have s8 : ∀ A j v, uv (lm A L) 8 j v = lm (uv A 8 j v) L := fun A j v => lm_s A L v (by simp)
  unfold gV_X1_add q_X1_add
  constructor
  · simp only [lm_lu, lm_0 V L (show (12 : Nat) ≠ 11 by decide), s1, s2, s3, s4, s5, s6, s8, lm_hold, lm_come, lm_ite]
  · simp only [lm_lu]
theorem lm_up (V : MemV) (L x : Int32) : gV_X1_stepUp (lm V L) x = lm (gV_X1_stepUp V x) L ∧ q_X1_stepUp (lm V L) x = q_X1_stepUp V x := by
  have r2 : ∀ A, lm A L 2 = A 2 := fun A => lm_q A L (by decide)
  unfold gV_X1_stepUp q_X1_stepUp
  constructor
  · simp only [lm_rv, lm_isE, lm_cb, lm_come, r2, lm_ite]
  · simp only [lm_rv, lm_isE, lm_cb, lm_come, r2]
theorem lm_many (V : MemV) (L : Int32) : q_X1_howManyButRoots (lm V L) = q_X1_howManyButRoots V := by
  unfold q_X1_howManyButRoots ql_X1_howManyButRoots c_X1_howManyButRoots
  rw [lm_q V L (show (1 : Fin 12) ≠ 0 by decide), lm_q V L (show (2 : Fin 12) ≠ 0 by decide)]
theorem lm_long (V : MemV) (L x : Int32) : q_X1_longestUnused (lm V L) x = q_X1_longestUnused V x := by
  have st : ∀ (nn k : Nat) (x2 x3 : Int32), lp_X1_longestUnused_7 (lm V L) x nn k x2 x3 = lp_X1_longestUnused_7 V x nn k x2 x3 := by
    intro nn
    induction nn with
    | zero => intro k x2 x3; rfl
    | succ nn ih =>
      intro k x2 x3
      rw [lp_X1_longestUnused_7, lp_X1_longestUnused_7]
      simp only [lm_q V L (show (1 : Fin 12) ≠ 0 by decide), lm_q V L (show (5 : Fin 12) ≠ 0 by decide), lm_q V L (show (2 : Fin 12) ≠ 0 by decide), lm_q V L (show (7 : Fin 12) ≠ 0 by decide), ih]
  exact st 64 0 (-1) 0
theorem shr_m (x1 x2 : Int32) : ∀ (nn k : Nat) (V : MemV), ∃ m, m ≤ nn ∧ lp_X1_shrink_12 x1 x2 nn k V 0 14 = V 0 14 + nI m ∧ lp_X1_shrink_12 x1 x2 nn k V 0 11 = V 0 11 ∧ (m = 0 → (nn = 0 ∨ q_X1_longestUnused V x1 = -1))
  | 0, k, V => ⟨0, Nat.le_refl _, by
    show V 0 14 = V 0 14 + nI 0
    rw [nI_0, Int32.add_zero], rfl, fun _ => Or.inl rfl⟩
  | nn + 1, k, V => by
    have st : lp_X1_shrink_12 x1 x2 (nn + 1) k V = (if (q_X1_longestUnused V x1) = ((-1)) then (V) else lp_X1_shrink_12 x1 x2 nn (k + 1) (uv (gV_X1_drop V (q_X1_longestUnused V x1)) 0 14 (((gV_X1_drop V (q_X1_longestUnused V x1)) 0 14) + 1))) := rfl
    rw [st]
    by_cases z : q_X1_longestUnused V x1 = -1
    · rw [if_pos z]
      exact ⟨0, Nat.zero_le _, by rw [nI_0, Int32.add_zero], rfl, fun _ => Or.inr z⟩
    · rw [if_neg z]
      obtain ⟨m, a1, a2, a3, _⟩ := shr_m x1 x2 nn (k + 1) (uv (gV_X1_drop V (q_X1_longestUnused V x1)) 0 14 (((gV_X1_drop V (q_X1_longestUnused V x1)) 0 14) + 1))
      refine ⟨m + 1, by omega, ?_, ?_, fun q => by omega⟩
      · rw [a2, uv_s, dr_k _ _ 0 (by decide) (by decide), Int32.add_assoc, Int32.add_comm 1 (nI m), nI_1]
      · rw [a3, uv_n _ _ _ _ _ _ (by decide), dr_k _ _ 0 (by decide) (by decide)]
theorem shr_v (x1 x2 : Int32) {nn : Nat} (k : Nat) {V : MemV} (h : nn = 0 ∨ q_X1_longestUnused V x1 = -1) : lp_X1_shrink_12 x1 x2 nn k V = V := by
  cases nn with
  | zero => rfl
  | succ nn =>
    show (if (q_X1_longestUnused V x1) = ((-1)) then (V) else _) = V
    rw [if_pos (h.resolve_left (by omega))]
theorem ix_sb {c l : Nat} (hc : c < 2 ^ 30) (hl : l < 2 ^ 30) : ix (nI c - nI l) = c - l := by
  show (nI c - nI l).toInt.toNat = c - l
  rw [Int32.toInt_sub, nI_toInt (by omega), nI_toInt (by omega), Int.bmod_eq_of_le (by omega) (by omega)]
  omega
theorem lm_shr {V : MemV} {l l' : Nat} (hl : V 0 11 = nI l) (ll : l ≤ l') (b : l' < 1000) (e : Int32) : ∃ m, m ≤ 64 ∧ gV_X1_shrink V e 0 14 = V 0 14 + nI m ∧ gV_X1_shrink V e 0 11 = V 0 11 ∧ (m = 0 → gV_X1_shrink (lm V (nI l')) e = lm (gV_X1_shrink V e) (nI l')) := by
  have cm : c_X1_howManyButRoots V ≤ 64 := cnt_le _ _ _
  have hq : q_X1_howManyButRoots V = nI (c_X1_howManyButRoots V) := rfl
  have e1 : gV_X1_shrink V e = lp_X1_shrink_12 e ((q_X1_howManyButRoots V) - (V 0 11)) (c_X1_howManyButRoots V - l) 0 V := by
    show lp_X1_shrink_12 e ((q_X1_howManyButRoots V) - (V 0 11)) (ix (((q_X1_howManyButRoots V) - (V 0 11)))) 0 V = _
    rw [hq, hl, ix_sb (by omega) (by omega)]
  have e2 : gV_X1_shrink (lm V (nI l')) e = lp_X1_shrink_12 e ((q_X1_howManyButRoots V) - nI l') (c_X1_howManyButRoots V - l') 0 (lm V (nI l')) := by
    show lp_X1_shrink_12 e ((q_X1_howManyButRoots (lm V (nI l'))) - (lm V (nI l') 0 11)) (ix (((q_X1_howManyButRoots (lm V (nI l'))) - (lm V (nI l') 0 11)))) 0 (lm V (nI l')) = _
    rw [lm_many, lm_11, hq, ix_sb (by omega) (by omega)]
  obtain ⟨m, a1, a2, a3, a4⟩ := shr_m e ((q_X1_howManyButRoots V) - (V 0 11)) (c_X1_howManyButRoots V - l) 0 V
  refine ⟨m, by omega, by rw [e1]; exact a2, by rw [e1]; exact a3, fun q => ?_⟩
  have := a4 q
  rw [e1, shr_v _ _ 0 this, e2]
  refine shr_v _ _ 0 ?_
  rcases this with z | z
  · exact Or.inl (by omega)
  · exact Or.inr (by rw [lm_long]; exact z)
theorem come0 (V : MemV) (x : Int32) {j : Nat} (h12 : j ≠ 12) (h16 : j ≠ 16) : gV_X1_comeTo V x 0 j = V 0 j := by
  unfold gV_X1_comeTo
  split
  · rfl
  · split
    · split
      · simp [uv, h12]
      · split
        · simp [uv, h12]
        · simp [uv, h12, h16]
    · rfl
theorem add0 (V : MemV) (x y z : Int32) {j : Nat} (h12 : j ≠ 12) (h16 : j ≠ 16) : gV_X1_add V x y z 0 j = V 0 j := by
  unfold gV_X1_add
  split
  · rfl
  · split
    · rw [come0 _ _ h12 h16, ho_k _ _ 0 (by decide)]
      simp [uv]
    · rfl
theorem up0 (V : MemV) (x : Int32) {j : Nat} (h12 : j ≠ 12) (h16 : j ≠ 16) : gV_X1_stepUp V x 0 j = V 0 j := by
  unfold gV_X1_stepUp
  split
  · rfl
  · split
    · split
      · rfl
      · split
        · rfl
        · exact come0 _ _ h12 h16
    · split
      · exact come0 _ _ h12 h16
      · split
        · exact come0 _ _ h12 h16
        · rw [come0 _ _ h12 h16, come0 _ _ h12 h16]
theorem lm_reach {U : NodV} {V : MemV} {l l' : Nat} (hl : V 0 11 = nI l) (ll : l ≤ l') (b : l' < 1000) (x s : Int32) : ∃ m, m ≤ 64 ∧ gV_X1_reach U V x s 0 14 = V 0 14 + nI m ∧ gV_X1_reach U V x s 0 11 = nI l ∧ q_X1_reach U (lm V (nI l')) x s = q_X1_reach U V x s ∧ (m = 0 → gV_X1_reach U (lm V (nI l')) x s = lm (gV_X1_reach U V x s) (nI l')) := by
  have qq : q_X1_reach U (lm V (nI l')) x s = q_X1_reach U V x s := by
    unfold q_X1_reach
    simp only [lm_find, lm_node, (lm_add _ _ _ _ _).2]
  have s13 : ∀ A v, uv (lm A (nI l')) 0 13 v = lm (uv A 0 13 v) (nI l') := fun A v => lm_s A _ v (by simp)
  unfold gV_X1_reach
  simp only [lm_find, lm_node, (lm_add _ _ _ _ _).2, (lm_add _ _ _ _ _).1, lm_come, lm_0 _ (nI l') (show (13 : Nat) ≠ 11 by decide), s13]
  by_cases a : q_X1_find V x s = -1
  · simp only [if_pos a]
    by_cases c : q_X1_add V x s (q_X2_find U (q_X1_nodeOf V x) s) = -1
    · simp only [if_pos c]
      exact ⟨0, by omega, by rw [add0 _ _ _ _ (by decide) (by decide), nI_0, Int32.add_zero], by rw [add0 _ _ _ _ (by decide) (by decide)]; exact hl, qq, fun _ => trivial⟩
    · simp only [if_neg c]
      obtain ⟨m, b1, b2, b3, b4⟩ := lm_shr (V := uv (gV_X1_add V x s (q_X2_find U (q_X1_nodeOf V x) s)) 0 13 (((gV_X1_add V x s (q_X2_find U (q_X1_nodeOf V x) s)) 0 13) + 1)) (l := l) (l' := l') (by rw [uv_n _ _ _ _ _ _ (by decide), add0 _ _ _ _ (by decide) (by decide)]; exact hl) ll b (q_X1_add V x s (q_X2_find U (q_X1_nodeOf V x) s))
      refine ⟨m, b1, ?_, ?_, qq, b4⟩
      · rw [b2, uv_n _ _ _ _ _ _ (by decide), add0 _ _ _ _ (by decide) (by decide)]
      · rw [b3, uv_n _ _ _ _ _ _ (by decide), add0 _ _ _ _ (by decide) (by decide)]
        exact hl
  · simp only [if_neg a]
    exact ⟨0, by omega, by rw [come0 _ _ (by decide) (by decide), nI_0, Int32.add_zero], by rw [come0 _ _ (by decide) (by decide)]; exact hl, qq, fun _ => trivial⟩
theorem lm_step {U : NodV} {V : MemV} {l l' : Nat} (hl : V 0 11 = nI l) (ll : l ≤ l') (b : l' < 1000) (x s : Int32) : ∃ m, m ≤ 64 ∧ gV_X1_stepFrom U V x s 0 14 = V 0 14 + nI m ∧ gV_X1_stepFrom U V x s 0 11 = nI l ∧ (m = 0 → gV_X1_stepFrom U (lm V (nI l')) x s = lm (gV_X1_stepFrom U V x s) (nI l') ∧ q_X1_stepFrom U (lm V (nI l')) x s = q_X1_stepFrom U V x s) := by
  have s16 : ∀ A v, uv (lm A (nI l')) 0 16 v = lm (uv A 0 16 v) (nI l') := fun A v => lm_s A _ v (by simp)
  have z14 : uv V 0 16 0 0 14 = V 0 14 := uv_n _ _ _ _ _ _ (by decide)
  have z11 : uv V 0 16 0 0 11 = nI l := by rw [uv_n _ _ _ _ _ _ (by decide)]; exact hl
  have zz : uv V 0 16 0 0 14 = V 0 14 + nI 0 := by rw [z14, nI_0, Int32.add_zero]
  obtain ⟨m, b1, b2, b3, b4, b5⟩ := lm_reach (U := U) z11 ll b x s
  unfold gV_X1_stepFrom q_X1_stepFrom
  rw [s16, lm_fold, (lm_up _ _ _).1, (lm_up _ _ _).2, b4]
  by_cases c1 : s = -1
  · simp only [if_pos c1]
    exact ⟨0, by omega, zz, z11, fun _ => ⟨trivial, trivial⟩⟩
  · simp only [if_neg c1]
    by_cases c2 : s = -2
    · simp only [if_pos c2]
      exact ⟨0, by omega, by rw [up0 _ _ (by decide) (by decide)]; exact zz, by rw [up0 _ _ (by decide) (by decide)]; exact z11, fun _ => ⟨trivial, trivial⟩⟩
    · simp only [if_neg c2]
      by_cases c3 : q_X1_isFolder U (uv V 0 16 0) x = 0
      · simp only [if_pos c3]
        exact ⟨0, by omega, zz, z11, fun _ => ⟨trivial, trivial⟩⟩
      · simp only [if_neg c3]
        rw [z14] at b2
        generalize gV_X1_reach U (uv V 0 16 0) x s = A at b2 b3 b5
        generalize gV_X1_reach U (lm (uv V 0 16 0) (nI l')) x s = A' at b5
        generalize q_X1_reach U (uv V 0 16 0) x s = e
        have r4 : ∀ A, lm A (nI l') 4 = A 4 := fun A => lm_q A _ (by decide)
        have r9 : ∀ A, lm A (nI l') 9 = A 9 := fun A => lm_q A _ (by decide)
        have k14 : ∀ y, gV_X1_comeTo A y 0 14 = A 0 14 := fun y => come0 _ _ (by decide) (by decide)
        have k11 : ∀ y, gV_X1_comeTo A y 0 11 = A 0 11 := fun y => come0 _ _ (by decide) (by decide)
        refine ⟨m, b1, ?_, ?_, fun q => ?_⟩
        · split
          · exact b2
          · split
            · exact b2
            · split
              · exact b2
              · split
                · rw [k14]; exact b2
                · exact b2
        · split
          · exact b3
          · split
            · exact b3
            · split
              · exact b3
              · split
                · rw [k11]; exact b3
                · exact b3
        · rw [b5 q]
          simp only [lm_isE, r4, r9, lm_cv, lm_come, lm_ite]
          exact ⟨trivial, trivial⟩
theorem lm_loop {U : NodV} {P : RouV} {l l' : Nat} (ll : l ≤ l') (b : l' < 1000) (x2 : Int32) : ∀ (nn k : Nat) (x : Int32) (V : MemV), V 0 11 = nI l → ∃ m, m ≤ 64 * nn ∧ (lp_X1_walk_8 12 P U x2 nn k x V).2 0 14 = V 0 14 + nI m ∧ (lp_X1_walk_8 12 P U x2 nn k x V).2 0 11 = nI l ∧ (m = 0 → lp_X1_walk_8 12 P U x2 nn k x (lm V (nI l')) = ((lp_X1_walk_8 12 P U x2 nn k x V).1, lm (lp_X1_walk_8 12 P U x2 nn k x V).2 (nI l'))) := by
  intro nn
  induction nn with
  | zero =>
    intro k x V hl
    exact ⟨0, by omega, by rw [nI_0, Int32.add_zero]; rfl, hl, fun _ => rfl⟩
  | succ nn ih =>
    intro k x V hl
    have st : ∀ V, lp_X1_walk_8 12 P U x2 (nn + 1) k x V = if x < 0 then (x, V) else lp_X1_walk_8 12 P U x2 nn (k + 1) (q_X1_stepFrom U V x (q_X4_stepAt 12 P (nI k))) (gV_X1_stepFrom U V x (q_X4_stepAt 12 P (nI k))) := fun _ => rfl
    rw [st, st]
    by_cases c : x < 0
    · rw [if_pos c, if_pos c]
      exact ⟨0, by omega, by rw [nI_0, Int32.add_zero], hl, fun _ => rfl⟩
    · rw [if_neg c, if_neg c]
      obtain ⟨m1, a1, a2, a3, a4⟩ := lm_step (U := U) hl ll b x (q_X4_stepAt 12 P (nI k))
      obtain ⟨m2, b1, b2, b3, b4⟩ := ih (k + 1) (q_X1_stepFrom U V x (q_X4_stepAt 12 P (nI k))) (gV_X1_stepFrom U V x (q_X4_stepAt 12 P (nI k))) a3
      refine ⟨m1 + m2, by omega, by rw [b2, a2, Int32.add_assoc, nI_add], b3, fun q => ?_⟩
      obtain ⟨c1, c2⟩ := a4 (by omega)
      rw [c1, c2]
      exact b4 (by omega)
theorem lm_walk {U : NodV} {P : RouV} {V : MemV} {l l' : Nat} (hl : V 0 11 = nI l) (ll : l ≤ l') (b : l' < 1000) {x2 : Int32} (hx : ix x2 ≤ 12) : ∃ m, m ≤ 768 ∧ gV_X1_walk 12 P U V x2 0 14 = V 0 14 + nI m ∧ gV_X1_walk 12 P U V x2 0 11 = nI l ∧ (m = 0 → gV_X1_walk 12 P U (lm V (nI l')) x2 = lm (gV_X1_walk 12 P U V x2) (nI l')) := by
  have s16 : ∀ A v, uv (lm A (nI l')) 0 16 v = lm (uv A 0 16 v) (nI l') := fun A v => lm_s A _ v (by simp)
  have cr : gV_X1_comeToRoot (lm V (nI l')) = lm (gV_X1_comeToRoot V) (nI l') := by
    unfold gV_X1_comeToRoot
    rw [s16, lm_q V _ (show (9 : Fin 12) ≠ 0 by decide), lm_come]
  have cq : q_X1_comeToRoot (lm V (nI l')) = q_X1_comeToRoot V := by
    show gV_X1_comeToRoot (lm V (nI l')) 9 0 = gV_X1_comeToRoot V 9 0
    rw [cr, lm_q _ _ (show (9 : Fin 12) ≠ 0 by decide)]
  have c14 : gV_X1_comeToRoot V 0 14 = V 0 14 := by
    unfold gV_X1_comeToRoot
    rw [come0 _ _ (by decide) (by decide), uv_n _ _ _ _ _ _ (by decide)]
  have c11 : gV_X1_comeToRoot V 0 11 = nI l := by
    unfold gV_X1_comeToRoot
    rw [come0 _ _ (by decide) (by decide), uv_n _ _ _ _ _ _ (by decide)]
    exact hl
  obtain ⟨m, b1, b2, b3, b4⟩ := lm_loop (U := U) (P := P) ll b x2 (ix x2) 0 (q_X1_comeToRoot V) (gV_X1_comeToRoot V) c11
  have e1 : gV_X1_walk 12 P U V x2 = (lp_X1_walk_8 12 P U x2 (ix x2) 0 (q_X1_comeToRoot V) (gV_X1_comeToRoot V)).2 := rfl
  have e2 : gV_X1_walk 12 P U (lm V (nI l')) x2 = (lp_X1_walk_8 12 P U x2 (ix x2) 0 (q_X1_comeToRoot (lm V (nI l'))) (gV_X1_comeToRoot (lm V (nI l')))).2 := rfl
  refine ⟨m, by omega, by rw [e1, b2, c14], by rw [e1]; exact b3, fun q => ?_⟩
  rw [e2, cr, cq, b4 q, e1]
/-- the paths of a trace, one behind another -/
def runV (U : NodV) (R : Nat → RouV) : Nat → MemV → MemV
  | 0, V => V
  | p + 1, V => gV_X1_walk 12 (R p) U (runV U R p V) (R p 0 1)
theorem runV_s (U : NodV) (R : Nat → RouV) (p : Nat) (V : MemV) : runV U R (p + 1) V = gV_X1_walk 12 (R p) U (runV U R p V) (R p 0 1) := rfl
theorem lm_run {U : NodV} {R : Nat → RouV} {V : MemV} {l l' : Nat} (hl : V 0 11 = nI l) (ll : l ≤ l') (b : l' < 1000) : ∀ L, (∀ p, p < L → ix (R p 0 1) ≤ 12) → ∃ m, m ≤ 768 * L ∧ runV U R L V 0 14 = V 0 14 + nI m ∧ runV U R L V 0 11 = nI l ∧ (m = 0 → ∀ p, p ≤ L → runV U R p (lm V (nI l')) = lm (runV U R p V) (nI l'))
  | 0, _ => ⟨0, by omega, by rw [nI_0, Int32.add_zero]; rfl, hl, fun _ p hp => by
    have : p = 0 := by omega
    subst this
    rfl⟩
  | L + 1, hR => by
    obtain ⟨m1, a1, a2, a3, a4⟩ := lm_run hl ll b L (fun p hp => hR p (by omega))
    obtain ⟨m2, b1, b2, b3, b4⟩ := lm_walk (U := U) (P := R L) a3 ll b (hR L (by omega))
    refine ⟨m1 + m2, by omega, by rw [runV_s, b2, a2, Int32.add_assoc, nI_add], b3, fun q p hp => ?_⟩
    by_cases z : p = L + 1
    · subst z
      rw [runV_s, runV_s, a4 (by omega) L (Nat.le_refl _), b4 (by omega)]
    · exact a4 (by omega) p (by omega)
end

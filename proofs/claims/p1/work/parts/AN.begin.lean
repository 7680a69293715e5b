/-! A walk that begins, on both sides. -/
theorem Inv.wnew {U : NodV} {V V' : MemV} {H : OneV} {W W' : WkV} {n vol t T : Nat} (i : Inv U V H W n vol t T (fun _ => 0)) {k : Nat} (hk : k < 4) (w0 : bz ((W k).1 0 5) = 0) {K1 K' : OneV} {P : RouV} {B B' : TriV} {l r ro : Nat} (w1 : ∀ j, j ≠ k → W' j = W j) (wk' : W' k = (K', P, B')) (l12 : l ≤ 12) (r3 : r ≤ 3) (h4 : K1 0 4 = nI 0) (h8 : K1 0 8 = nI 0) (hl : P 0 1 = nI l) (h7 : K1 0 7 = nI r) (uw : ¬ bz (K1 0 5) = 0) (h11 : V 11 0 = nI ro) (ra : At V ro) (o : TkO 0 1 0 K1 B V (K', B', V')) : Inv U V' H W' n vol t T (fun _ => 0) ∧ WkI V' t T (W' k) 1 0 l r ∧ B' 0 0 = nI ro := by
  have o' := o
  obtain ⟨o1, o2, o3, o4, o5, o6⟩ := o
  have e6 : bz (K' 0 6) = bz (K1 0 6) := congrArg bz (o2 6 (by decide))
  obtain ⟨b0, b1, b2⟩ := o3 0 (by omega) (by omega)
  have b0 : B' 0 0 = V 11 0 := b0
  have b1 : B' 1 0 = V 8 (ix (V 11 0)) := b1
  have b2 : B' 2 0 = V 6 (ix (V 11 0)) := b2
  have wI : WkI V t T (W' k) 1 0 l r := by
    rw [wk']
    refine ⟨o1, (o2 8 (by decide)).trans h8, hl, (o2 7 (by decide)).trans h7, by omega, by omega, by omega, l12, r3, fun j hj => ?_⟩
    have : j = 0 := by omega
    subst this
    show WayI V t T (bz (K' 0 6)) (B' 0 0) (B' 1 0) (B' 2 0)
    rw [b0, b1, b2, h11, ix64 ra.1]
    exact WayI.new i.Z ra _
  have kv : ∀ r : Fin 12, r ≠ 5 → V' r = V r := o5
  refine ⟨i.wset hk w1 (fun f => if bz (K1 0 6) = 0 then 0 else cnt (fun j => decide (V 11 j = nI f)) 0 1) (fun f _ => ?_) (fun r _ h => kv r h) ⟨by rw [kv 0 (by decide)], by rw [kv 0 (by decide)], by rw [kv 0 (by decide)]⟩ (fun f hf _ => ?_) (fun _ => ⟨_, _, _, _, r3, wI⟩), wI.fr (kv 1 (by decide)) (kv 4 (by decide)) (kv 6 (by decide)) (kv 8 (by decide)) (Nat.le_refl _) (Nat.le_refl _), by rw [b0]; exact h11⟩
  · rw [wk', hcK_tk (m := 0) h4 (by omega) o' uw f]
    have z1 : hcK (W k) f = 0 := by
      unfold hcK
      rw [if_pos (Or.inl w0)]
    have z2 : hcK (K1, P, B) f = 0 := by
      show (if bz (K1 0 5) = 0 ∨ bz (K1 0 6) = 0 then 0 else cnt (fun k => decide (B 0 k = nI f)) 0 (ix (K1 0 4))) = 0
      rw [h4, show ix (nI 0) = 0 from rfl]
      show (if bz (K1 0 5) = 0 ∨ bz (K1 0 6) = 0 then 0 else 0) = 0
      rw [ite_self]
    rw [z1, z2]
  · have := o6 f hf
    rw [Nat.sub_zero] at this
    rw [show V' 5 f = _ from this]
    by_cases hv : bz (K1 0 6) = 0
    · rw [if_pos hv, if_pos hv]
      exact (Int32.add_zero _).symm
    · rw [if_neg hv, if_neg hv]
theorem Rel.begW {U : NodV} {V : MemV} {H : OneV} {W : WkV} {D : RowV} {n k : Nat} (r : Rel (some k) U (tz V) H W (sD (sD D (17 + 96 * k + 5) 0) (17 + 96 * k + 3) 0) n) (n60 : n ≤ 60) {J : MJ} (h : RefL J) (I : MI) (hw21 : I 188 21 = -1) (G : RowV) (c : Int32) (hm : (W k).1 0 4 = nI 0) {ro : Nat} (hr : V 9 0 = nI ro) (ra : At V ro) : ∃ D', M_X10_beginsWay [mR (some 188), mI (nI k)] (rF I D G c, J) = some (none, (rF I D' G (nI ro), J)) ∧ Rel (some k) U (gV_X1_comeToRoot V) H W D' n := by
  have k4 := (r.T k rfl).1
  obtain ⟨D', d1, d2, _, _⟩ := r.come n60 h (up2 I 188 21 (nI k)) (by rw [up2_s]; rfl) G (nI ro) (tl := 0) (fun j q => by cases q; exact ⟨tz_16 V, 0, hm, by omega⟩) (by decide) ra.1 (by rw [tz_k V 1 (by decide), ra.2.1]; exact i10)
  refine ⟨D', ?_, ?_⟩
  · have d5 : sD (sD D (17 + 96 * k + 5) 0) (17 + 96 * k + 3) 0 5 = nI ro := by
      have := r.B.rt 0 (by decide)
      rw [tz_k V 9 (by decide), hr] at this
      exact this
    rw [E_X10_beginsWay]
    simp only [h.f18, Option.bind_some, w_walkerAt _ k 5 (show (5 : Int32) = nI 5 from rfl), w_walkerAt _ k 3 (show (3 : Int32) = nI 3 from rfl), asI_I, h.stD _ _ (show nI (17 + 96 * k + 5) = nI (17 + 96 * k + 5) from rfl) (show 17 + 96 * k + 5 < 1853 by omega), h.stD _ _ (show nI (17 + 96 * k + 3) = nI (17 + 96 * k + 3) from rfl) (show 17 + 96 * k + 3 < 1853 by omega), rF_sD, h.wi, rF_21, h.ldD _ (show (5 : Int32) = nI 5 from rfl) (show 5 < 1853 by decide), rF_D, d5, rF_sc, h.fi, rF_c, h.kt, if_true, d1, asV_n, up2_21 hw21]
  · have e : gV_X1_comeToRoot V = gV_X1_comeTo (tz V) (nI ro) := by
      unfold gV_X1_comeToRoot
      rw [hr]
      rfl
    rw [e]
    exact d2
/-- the root's entry -/
theorem MemI.root0 {U : NodV} {V : MemV} {n vol : Nat} (h : MemI U V n vol) (hN : NodI U n vol) : ∃ ro, V 9 0 = nI ro ∧ At V ro := by
  obtain ⟨r0, a1, a2⟩ := h.r0
  obtain ⟨r, b1, b2, _⟩ := h.rootA hN (v := 0) (by decide) (by rw [a2]; exact nI_m1 (by omega))
  exact ⟨r, b1, b2⟩
theorem Inv.ctr {U : NodV} {V : MemV} {H : OneV} {W : WkV} {n vol t T : Nat} {x : Nat → Nat} (i : Inv U V H W n vol t T x) {ro : Nat} (hr : V 9 0 = nI ro) (ra : At V ro) (ht : t + 1 ≤ T) : Inv U (gV_X1_comeToRoot V) H W n vol (t + 1) T x ∧ gV_X1_comeToRoot V 0 16 = nI 1 ∧ gV_X1_comeToRoot V 11 0 = nI ro ∧ At (gV_X1_comeToRoot V) ro ∧ gV_X1_comeToRoot V 1 = V 1 ∧ gV_X1_comeToRoot V 9 = V 9 := by
  have e : gV_X1_comeToRoot V = gV_X1_comeTo (tz V) (nI ro) := by
    unfold gV_X1_comeToRoot
    rw [hr]
    rfl
  rw [e]
  have tl := cT_tl (tz V) ra.1 (tz_16 V) (by decide)
  exact ⟨i.tzi.come ra.1 ht, tl.1, by rw [tl.2, if_pos rfl], ra.tzi.come _, by rw [cT_k _ _ _ (by decide) (by decide) (by decide), tz_k V 1 (by decide)], by rw [cT_k _ _ _ (by decide) (by decide) (by decide), tz_k V 9 (by decide)]⟩
/-- the row of a walker that begins -/
def bgD (D : RowV) (k l : Nat) (S : RowV) : RowV := fun j => if 17 + 96 * k ≤ j ∧ j < 17 + 96 * k + 96 then (if j = 17 + 96 * k then 1 else if j = 17 + 96 * k + 4 then nI l else if 17 + 96 * k + 6 ≤ j ∧ j < 17 + 96 * k + 6 + l then S (j - (17 + 96 * k + 6)) else 0) else D j
theorem w_begin34 {J : MJ} (h : RefL J) (I : MI) (D G : RowV) (c : Int32) {k l : Nat} (k4 : k < 4) (l12 : l ≤ 12) (hk : ∀ j, j < k → D (17 + 96 * j + 0) = 1) (hk0 : ¬ D (17 + 96 * k + 0) = 1) (h15 : I 188 15 = nI l) : Ev T_X10_begin 34 [some (mR (some 188)), some (mI 0), none] [] (rF I D G c, J) = (M_X10_beginsWay [mR (some 188), mI (nI k)] (rF I (bgD D k l (I 192)) G c, J)).bind fun u2 => (asV u2.1).bind fun _ => some (some (mI (nI k)), u2.2) := by
  have go : ∀ j, j ≤ k → Ev T_X10_begin 34 [some (mR (some 188)), some (mI 0), none] [] (rF I D G c, J) = Ev T_X10_begin 34 [some (mR (some 188)), some (mI (nI j)), none] [] (rF I D G c, J) := by
    intro j
    induction j with
    | zero => intro _; rfl
    | succ j ih =>
      intro hj
      rw [ih (by omega), E_X10_begin_34]
      simp only [h.kt, if_true, w_walkerHas h _ 0 (show (0 : Int32) = nI 0 from rfl) (show j < 4 by omega) (by decide), Option.bind_some, asI_I, rF_D, hk j (by omega), nI_1]
  rw [go k (Nat.le_refl _), E_X10_begin_34]
  simp only [h.kt, if_true, w_walkerHas h _ 0 (show (0 : Int32) = nI 0 from rfl) k4 (by decide), Option.bind_some, asI_I, rF_D, if_neg hk0]
  have s1 := loop_all (fun x D => Ev T_X10_begin 52 [some (mR (some 188)), some (mI (nI k)), some (mI (nI x))] [] (rF I D G c, J)) (fun x A => sD A (17 + 96 * k + x) ((fun _ => 0 : RowV) x)) 96 D (fun x A hx => by
    try dsimp only
    rw [E_X10_begin_52, if_neg (show ¬ (96 : Int32) ≤ nI x from nI_ge hx (by decide))]
    simp only [h.f18, Option.bind_some, w_walkerAt _ k x rfl, asI_I, h.stD _ _ rfl (show 17 + 96 * k + x < 1853 by omega), rF_sD, nI_1])
  try dsimp only at s1
  rw [show (nI 0) = 0 from rfl] at s1
  rw [s1, E_X10_begin_52, if_pos (show (96 : Int32) ≤ nI 96 by decide)]
  have a1 : ∀ j, itr (fun x A => sD A (17 + 96 * k + x) 0) 0 96 D j = if 17 + 96 * k ≤ j ∧ j < 17 + 96 * k + 96 then 0 else D j := fun j => itr_cp (fun _ => 0) (17 + 96 * k) 96 0 D j
  generalize itr (fun x A => sD A (17 + 96 * k + x) 0) 0 96 D = D1 at a1
  simp only [h.f18, Option.bind_some, w_walkerAt _ k 0 (show (0 : Int32) = nI 0 from rfl), w_walkerAt _ k 4 (show (4 : Int32) = nI 4 from rfl), asI_I, h.stD _ _ (show nI (17 + 96 * k + 0) = nI (17 + 96 * k + 0) from rfl) (show 17 + 96 * k + 0 < 1853 by omega), rF_sD, h.fi, rF_k I _ _ _ (show (15 : Nat) ≠ 22 by decide), h15, h.stD _ _ (show nI (17 + 96 * k + 4) = nI (17 + 96 * k + 4) from rfl) (show 17 + 96 * k + 4 < 1853 by omega)]
  have s2 := loop_all (fun x D => Ev T_X10_begin 102 [some (mR (some 188)), some (mI (nI k)), some (mI (nI x))] [] (rF I D G c, J)) (fun x A => sD A (17 + 96 * k + (6 + x)) (I 192 x)) l (sD (sD D1 (17 + 96 * k + 0) 1) (17 + 96 * k + 4) (nI l)) (fun x A hx => by
    try dsimp only
    rw [E_X10_begin_102]
    have e6 : (6 : Int32) + nI x = nI (6 + x) := nI_add 6 x
    have l64 : ld (rF I A G c, J) 11 192 (nI x) = some (I 192 x) := by
      rw [ld_ok _ h.s14 (inb_nI (show x < 64 by omega) (by decide)), rF_o _ _ _ _ (by decide) (by decide) (by decide), show (nI x).toNatClampNeg = x from ix_nI (by omega)]
    simp only [h.fi, rF_k I _ _ _ (show (15 : Nat) ≠ 22 by decide), h15, Option.bind_some, if_neg (show ¬ nI l ≤ nI x from nI_ge hx (by omega)), h.f18, w_walkerAt _ k (6 + x) e6, asI_I, h.f14, l64, h.stD _ _ rfl (show 17 + 96 * k + (6 + x) < 1853 by omega), rF_sD, nI_1])
  try dsimp only at s2
  rw [show (nI 0) = 0 from rfl] at s2
  have ef : (fun (x : Nat) (A : RowV) => sD A (17 + 96 * k + (6 + x)) (I 192 x)) = fun x A => sD A (17 + 96 * k + 6 + x) (I 192 x) := by
    funext x A
    rw [Nat.add_assoc (17 + 96 * k) 6 x]
  rw [ef] at s2
  rw [s2, E_X10_begin_102]
  have a2 : ∀ j, itr (fun x A => sD A (17 + 96 * k + 6 + x) (I 192 x)) 0 l (sD (sD D1 (17 + 96 * k + 0) 1) (17 + 96 * k + 4) (nI l)) j = if 17 + 96 * k + 6 ≤ j ∧ j < 17 + 96 * k + 6 + l then I 192 (j - (17 + 96 * k + 6)) else (sD (sD D1 (17 + 96 * k + 0) 1) (17 + 96 * k + 4) (nI l)) j := fun j => itr_cp (I 192) (17 + 96 * k + 6) l 0 _ j
  have e : itr (fun x A => sD A (17 + 96 * k + 6 + x) (I 192 x)) 0 l (sD (sD D1 (17 + 96 * k + 0) 1) (17 + 96 * k + 4) (nI l)) = bgD D k l (I 192) := by
    funext j
    rw [a2]
    unfold bgD sD
    rw [a1]
    by_cases c1 : 17 + 96 * k ≤ j ∧ j < 17 + 96 * k + 96
    · rw [if_pos c1, if_pos c1]
      by_cases c2 : 17 + 96 * k + 6 ≤ j ∧ j < 17 + 96 * k + 6 + l
      · rw [if_pos c2, if_neg (by omega), if_neg (by omega), if_pos c2]
      · rw [if_neg c2, if_neg c2]
        by_cases c3 : j = 17 + 96 * k
        · rw [if_neg (by omega), if_pos (by omega), if_pos c3]
        · rw [if_neg c3]
          by_cases c4 : j = 17 + 96 * k + 4
          · rw [if_pos c4, if_pos c4]
          · rw [if_neg c4, if_neg (by omega), if_neg c4]
    · rw [if_neg c1, if_neg c1, if_neg (by omega), if_neg (by omega), if_neg (by omega)]
  rw [e]
  simp only [h.fi, rF_k I _ _ _ (show (15 : Nat) ≠ 22 by decide), h15, Option.bind_some, if_pos (Int32.le_refl (nI l)), h.kt, if_true]
theorem bgD_o (D : RowV) (k l : Nat) (S : RowV) {j : Nat} (h : j < 17 + 96 * k ∨ 17 + 96 * k + 96 ≤ j) : bgD D k l S j = D j := if_neg (by omega)
theorem bgD_at (D : RowV) {k l : Nat} (S : RowV) (l12 : l ≤ 12) : bgD D k l S (17 + 96 * k + 0) = 1 ∧ bgD D k l S (17 + 96 * k + 1) = 0 ∧ bgD D k l S (17 + 96 * k + 2) = 0 ∧ bgD D k l S (17 + 96 * k + 4) = nI l ∧ ∀ j, j < l → bgD D k l S (17 + 96 * k + (6 + j)) = S j := by
  unfold bgD
  refine ⟨?_, ?_, ?_, ?_, fun j hj => ?_⟩
  · rw [if_pos (by omega), if_pos (by omega)]
  · rw [if_pos (by omega), if_neg (by omega), if_neg (by omega), if_neg (by omega)]
  · rw [if_pos (by omega), if_neg (by omega), if_neg (by omega), if_neg (by omega)]
  · rw [if_pos (by omega), if_neg (by omega), if_pos rfl]
  · rw [if_pos (by omega), if_neg (by omega), if_neg (by omega), if_pos (by omega)]
    congr 1
    omega
theorem cnt_all4 {P : Nat → Bool} : cnt P 0 4 = 4 ↔ ∀ k, k < 4 → P k = true := by
  constructor
  · intro q k hk
    cases z : P k with
    | true => rfl
    | false =>
      have one := cnt_one (P := P) (P' := fun i => if i = k then true else P i) (e := k) (n := 4) (k := 0) (Nat.zero_le _) (by omega) (fun i _ _ w => by rw [if_neg w])
      have := cnt_le (fun i => if i = k then true else P i) 4 0
      have e0 : (if P k = true then 1 else 0) = 0 := by rw [z]; rfl
      have e1 : (if (if k = k then true else P k) = true then 1 else 0) = 1 := by rw [if_pos rfl]; rfl
      rw [e0, e1] at one
      omega
  · intro q
    have : cnt P 0 4 = cnt (fun _ => true) 0 4 := cnt_cong (fun k _ hk => q k (by omega))
    rw [this]
    decide
theorem Rfs.bgn : Rfs (M_X10_begin [mR (some 188)]) 5 := fun J X X1 y h hp hc => by
  rw [E_X10_begin]
  simp only [h.kt, if_true, hp, Option.bind_some, asI_I, h.fz, w_refuses h X1 (show (5 : Int32) = nI 5 from rfl) (by decide)]
  rcases hc with z | ⟨z1, z2⟩
  · rw [if_pos z]
  · rw [if_neg z1, if_pos z2]

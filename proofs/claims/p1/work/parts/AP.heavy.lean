/-! Whether a way is other, whether a walker turns heavy, on both sides. -/
theorem e18 (j : Nat) : (18 : Int32) + 3 * nI j = nI (18 + 3 * j) ∧ (18 : Int32) + 3 * nI j + 1 = nI (18 + 3 * j + 1) ∧ (18 : Int32) + 3 * nI j + 2 = nI (18 + 3 * j + 2) := by
  have e : (18 : Int32) + 3 * nI j = nI (18 + 3 * j) := by
    rw [show (18 : Int32) = nI 18 from rfl, show (3 : Int32) = nI 3 from rfl, nI_mul, nI_add]
  exact ⟨e, by rw [e, nI_1], by rw [e]; exact nI_add _ 2⟩
theorem ch_s (K : OneV) (B : TriV) (V : MemV) (nn k : Nat) : lp_X7_isChanged_2 K B V (nn + 1) k = (if (K 0 4) ≤ (nI k) then (0) else (if (q_X1_isEntry V (B 0 k)) = 0 then (1) else (if (V 8 (ix (B 0 k))) = (B 1 k) then (if (V 6 (ix (B 0 k))) = (B 2 k) then lp_X7_isChanged_2 K B V nn (k + 1)  else (1)) else (1)))) := rfl
theorem w_wayOther {U : NodV} {V : MemV} {H : OneV} {W : WkV} {D : RowV} {n t T k : Nat} (r : Rel none U V H W D n) {J : MJ} (h : RefL J) (I : MI) (G : RowV) (c : Int32) (k4 : k < 4) {K : OneV} {P : RouV} {B : TriV} {m d l rr : Nat} (wk : W k = (K, P, B)) (uw : ¬ bz (K 0 5) = 0) (wi : WkI V t T (K, P, B) m d l rr) : M_X10_isWayOther [mR (some 188), mI (nI k)] (rF I D G c, J) = some (some (mI (q_X7_isChanged K B V)), (rF I D G c, J)) := by
  have b1 := wi.md
  have b2 := wi.dl
  have b3 := wi.l12
  have e4 : K 0 4 = nI m := wi.m
  have rk := r.K k k4
  rw [wk] at rk
  have d5 : D (17 + 96 * k + 5) = nI m := by
    have := r.M k k4 (by rw [wk]; exact uw) (fun z => by cases z)
    rw [wk] at this
    exact this.trans e4
  have nh : ∀ f, f < 96 → ∀ (z : Int32), z = nI f → M_X10_walkerHas [mR (some 188), mI (nI k), mI z] (rF I D G c, J) = some (some (mI (D (17 + 96 * k + f))), (rF I D G c, J)) := fun f hf z hz => by
    rw [w_walkerHas h _ f hz k4 hf, rF_D]
  have loop : ∀ (nn j : Nat), j + nn = 25 → j ≤ m → Ev T_X10_isWayOther 2 [some (mR (some 188)), some (mI (nI k)), some (mI (nI j)), none] [] (rF I D G c, J) = some (some (mI (lp_X7_isChanged_2 K B V nn j)), (rF I D G c, J)) := by
    intro nn
    induction nn with
    | zero =>
      intro j hj jm
      have z : j = m := by omega
      rw [E_X10_isWayOther_2]
      have e : lp_X7_isChanged_2 K B V 0 j = 0 := by
        show (if (K 0 4) ≤ (nI j) then (0) else (0)) = (0 : Int32)
        rw [ite_self]
      simp only [h.kt, if_true, nh 5 (by decide) 5 rfl, Option.bind_some, asI_I, d5, z, if_pos (Int32.le_refl (nI m))]
      rw [← z, e]
      simp
    | succ nn ih =>
      intro j hj jm
      rw [E_X10_isWayOther_2, ch_s]
      simp only [h.kt, if_true, nh 5 (by decide) 5 rfl, Option.bind_some, asI_I, d5]
      by_cases z : j = m
      · subst z
        rw [if_pos (Int32.le_refl _), e4, if_pos (Int32.le_refl _)]
        simp
      · have jm' : j < m := by omega
        have wy := rk.wy uw j (by omega) (by show j < ix (K 0 4); rw [e4, ix_nI (by omega)]; exact jm')
        obtain ⟨y1, y2, y3⟩ := wy
        have y1 : D (17 + 96 * k + (18 + 3 * j)) = B 0 j := y1
        have y2 : D (17 + 96 * k + (18 + 3 * j + 1)) = B 1 j := y2
        have y3 : D (17 + 96 * k + (18 + 3 * j + 2)) = B 2 j := y3
        obtain ⟨e, e64, be, _⟩ := (wi.wy j jm').ex
        have be : B 0 j = nI e := be
        obtain ⟨x1, x2, x3⟩ := e18 j
        rw [if_neg (nI_ge jm' (by omega)), e4, if_neg (nI_ge jm' (by omega))]
        have isq : q_X1_isEntry V (nI e) = if V 1 e = 0 then 0 else 1 := isE_k e64
        simp only [h.kt, if_true, nh (18 + 3 * j) (by omega) _ x1, nh (18 + 3 * j + 1) (by omega) _ x2, nh (18 + 3 * j + 2) (by omega) _ x3, Option.bind_some, asI_I, y1, y2, y3, be, w_its h _ 0 (show (0 : Int32) = nI 0 from rfl) (show e < 128 by omega) (by decide), w_its h _ 6 (show (6 : Int32) = nI 6 from rfl) (show e < 128 by omega) (by decide), w_its h _ 4 (show (4 : Int32) = nI 4 from rfl) (show e < 128 by omega) (by decide), rF_D, isq, ix64 e64]
        by_cases v0 : V 1 e = 0
        · rw [r.B.th0 (show e < 128 by omega) (fun _ => v0), if_pos rfl, if_pos v0, if_pos rfl]
          simp
        · have en := r.B.en e e64 v0
          rw [r.B.th1 e64 v0, if_neg i10, if_neg v0, if_neg i10, en.2.2.2.2.2.1, en.2.2.2.1]
          by_cases v8 : V 8 e = B 1 j
          · rw [if_pos v8, if_pos v8]
            by_cases v6 : V 6 e = B 2 j
            · rw [if_pos v6, if_pos v6, nI_1]
              exact ih (j + 1) (by omega) (by omega)
            · rw [if_neg v6, if_neg v6]
              simp
          · rw [if_neg v8, if_neg v8]
            simp
  rw [E_X10_isWayOther]
  exact loop 25 0 rfl (Nat.zero_le _)
theorem chg_no {V : MemV} {t T : Nat} {K : OneV} {P : RouV} {B : TriV} {m d l rr : Nat} (T30 : T ≤ 1000000000) (wi : WkI V t T (K, P, B) m d l rr) (h : q_X7_isChanged K B V = 0) : ∀ j, j < m → ∃ e, B 0 j = nI e ∧ At V e := by
  have b1 := wi.md
  have b2 := wi.dl
  have b3 := wi.l12
  have e4 : K 0 4 = nI m := wi.m
  have key : ∀ (nn j : Nat), j + nn = 25 → lp_X7_isChanged_2 K B V nn j = 0 → ∀ i, j ≤ i → i < m → ∃ e, B 0 i = nI e ∧ At V e := by
    intro nn
    induction nn with
    | zero =>
      intro j hj _ i h1 h2
      omega
    | succ nn ih =>
      intro j hj hz i h1 h2
      obtain ⟨e, e64, be, ⟨bb, cc, g1, g2, g3, g4, g5⟩, _⟩ := (wi.wy j (by omega)).ex
      have be : B 0 j = nI e := be
      have g1 : B 1 j = nI bb := g1
      have g3 : B 2 j = nI cc := g3
      rw [ch_s, e4, if_neg (nI_ge (show j < m by omega) (by omega)), be, isE_k e64, ix64 e64] at hz
      by_cases v0 : V 1 e = 0
      · rw [if_pos v0, if_pos rfl] at hz
        exact absurd hz (by decide)
      · rw [if_neg v0, if_neg i10] at hz
        by_cases v8 : V 8 e = B 1 j
        · rw [if_pos v8] at hz
          by_cases v6 : V 6 e = B 2 j
          · rw [if_pos v6] at hz
            by_cases z : i = j
            · subst z
              obtain ⟨c2, k1, k2, k3, k4⟩ := g5 v0 v8
              have : cc = c2 := (nI_eq (by omega) (by omega)).mp (g3.symm.trans (v6.symm.trans k1))
              exact ⟨e, be, e64, k4 this⟩
            · exact ih (j + 1) (by omega) hz i (by omega) h2
          · rw [if_neg v6] at hz
            exact absurd hz (by decide)
        · rw [if_neg v8] at hz
          exact absurd hz (by decide)
  intro j hj
  exact key 25 0 rfl h j (Nat.zero_le _) hj
theorem last_q7 {K : OneV} {B : TriV} {m : Nat} (h4 : K 0 4 = nI m) (m1 : 1 ≤ m) (m25 : m ≤ 25) : q_X7_lastOfWay K B = B 0 (m - 1) := by
  unfold q_X7_lastOfWay
  rw [h4, if_neg (nI_nle (by omega) (by omega)), if_neg (show ¬ (25 : Int32) < nI m from nI_nlt (a := 25) (by omega) (by omega)), show nI m - 1 = nI (m - 1) from nI_sub (b := 1) (by omega), ix_nI (by omega)]
theorem stepAt_o {L : Nat} {P : RouV} {lp k : Nat} (hp : P 0 1 = nI lp) (hk : lp ≤ k) (hb : k < 1000) : q_X4_stepAt L P (nI k) = 0 := by
  unfold q_X4_stepAt
  rw [if_neg (nI_pos (show k < 2 ^ 31 by omega)), hp, if_pos (nI_le hk (by omega))]
/-- a walker turns heavy -/
theorem Rel.turns {U : NodV} {V : MemV} {H : OneV} {W : WkV} {D : RowV} {n k t T : Nat} (r : Rel none U V H W D n) {J : MJ} (h : RefL J) (I : MI) (G : RowV) (c : Int32) (k4 : k < 4) {K : OneV} {P : RouV} {B : TriV} {m d l rr : Nat} (wk : W k = (K, P, B)) (uw : ¬ bz (K 0 5) = 0) (wi : WkI V t T (K, P, B) m d l rr) {a : Nat} (last : B 0 (m - 1) = nI a) (ha : At V a) : M_X10_turnsHeavy [mR (some 188), mI (nI k)] (rF I D G c, J) = some (none, (rF I (if bz (K 0 6) = 0 ∧ ¬ q_X7_lacksNext 12 K P B V = 0 then sD D (17 + 96 * k + 1) 1 else D) G c, J)) := by
  have b1 := wi.md
  have b2 := wi.dl
  have b3 := wi.l12
  have b4 := wi.m1
  have e4 : K 0 4 = nI m := wi.m
  have e8 : K 0 8 = nI d := wi.d
  have el : P 0 1 = nI l := wi.l
  have rk := r.K k k4
  rw [wk] at rk
  obtain ⟨u1, u2, u3, u4⟩ := rk.un uw
  have u1 : D (17 + 96 * k + 1) = bz (K 0 6) := u1
  have u3 : D (17 + 96 * k + 3) = nI d := u3.trans e8
  have u4 : D (17 + 96 * k + 4) = nI l := u4.trans el
  have d5 : D (17 + 96 * k + 5) = nI m := by
    have := r.M k k4 (by rw [wk]; exact uw) (fun z => by cases z)
    rw [wk] at this
    exact this.trans e4
  have nh : ∀ f, f < 96 → ∀ (z : Int32), z = nI f → M_X10_walkerHas [mR (some 188), mI (nI k), mI z] (rF I D G c, J) = some (some (mI (D (17 + 96 * k + f))), (rF I D G c, J)) := fun f hf z hz => by
    rw [w_walkerHas h _ f hz k4 hf, rF_D]
  have lw := last_q7 (B := B) e4 b4 (by omega)
  rw [E_X10_turnsHeavy]
  simp only [h.kt, if_true, nh 1 (by decide) 1 rfl, Option.bind_some, asI_I, u1]
  by_cases hv : bz (K 0 6) = 0
  · rw [if_neg (show ¬ bz (K 0 6) = 1 by rw [hv]; exact i01)]
    simp only [E_X10_isThrough, h.kt, if_true, nh 3 (by decide) 3 rfl, nh 4 (by decide) 4 rfl, Option.bind_some, asI_I, u3, u4]
    by_cases dl : d = l
    · have sa : q_X4_stepAt 12 P (K 0 8) = 0 := by rw [e8]; exact stepAt_o el (by omega) (by omega)
      have ln : q_X7_lacksNext 12 K P B V = 0 := by
        unfold q_X7_lacksNext
        rw [sa, if_pos (Int32.le_refl _)]
      have rhs : (if bz (K 0 6) = 0 ∧ ¬ q_X7_lacksNext 12 K P B V = 0 then sD D (17 + 96 * k + 1) 1 else D) = D := if_neg (fun z => z.2 ln)
      rw [rhs, dl]
      simp [asI]
    · have dl' : d < l := by omega
      have sp := rk.sp uw d (by omega) (by show d < ix (P 0 1); rw [el, ix_nI (by omega)]; exact dl')
      have sp : NmS (P 1 d) (D (17 + 96 * k + (6 + d))) := sp
      have sa : q_X4_stepAt 12 P (K 0 8) = P 1 d := by rw [e8]; exact stepAt_k el dl' (by omega) (by decide)
      have e6 : (6 : Int32) + nI d = nI (6 + d) := nI_add 6 d
      have wy := rk.wy uw (m - 1) (by omega) (by show m - 1 < ix (K 0 4); rw [e4, ix_nI (by omega)]; omega)
      have dla : D (17 + 96 * k + (18 + 3 * (m - 1))) = nI a := wy.1.trans last
      have nd : ¬ nI d = nI l := fun z => dl ((nI_eq (by omega) (by omega)).mp z)
      have lnq : q_X7_lacksNext 12 K P B V = if P 1 d ≤ 0 then 0 else if q_X1_find V (nI a) (P 1 d) = -1 then 1 else 0 := by
        unfold q_X7_lacksNext
        rw [sa, lw, last]
      simp only [if_neg nd, true_or, if_true, Option.bind_some, asI_I]
      simp only [E_X10_nextStep, h.kt, if_true, nh 3 (by decide) 3 rfl, Option.bind_some, asI_I, u3, nh (6 + d) (by omega) _ e6, nh 5 (by decide) 5 rfl, d5, nh (18 + 3 * (m - 1)) (by omega) _ (m1_18 b4), dla, w_childHere h, rF_D]
      by_cases ps : 0 < P 1 d
      · have py : 0 < D (17 + 96 * k + (6 + d)) := sp.pos.1.mp ps
        have nm := sp.nm ps
        rw [if_neg (i32_gt_ne ps).2.2.2, find_o ha.1 (by rw [ha.2.1]; exact i10)] at lnq
        rw [if_pos py, r.eqc (nI a) nm]
        by_cases z : oI (f_X1_find V (nI a) (P 1 d)) = -1
        · rw [if_pos z] at lnq
          have rhs : (if bz (K 0 6) = 0 ∧ ¬ q_X7_lacksNext 12 K P B V = 0 then sD D (17 + 96 * k + 1) 1 else D) = sD D (17 + 96 * k + 1) 1 := if_pos ⟨hv, by rw [lnq]; exact i10⟩
          rw [rhs, if_pos z]
          simp only [h.f18, Option.bind_some, w_walkerAt _ k 1 (show (1 : Int32) = nI 1 from rfl), asI_I, h.stD _ _ (show nI (17 + 96 * k + 1) = nI (17 + 96 * k + 1) from rfl) (show 17 + 96 * k + 1 < 1853 by omega), rF_sD]
        · rw [if_neg z] at lnq
          have rhs : (if bz (K 0 6) = 0 ∧ ¬ q_X7_lacksNext 12 K P B V = 0 then sD D (17 + 96 * k + 1) 1 else D) = D := if_neg (fun y => y.2 lnq)
          rw [rhs, if_neg z]
      · have py : ¬ 0 < D (17 + 96 * k + (6 + d)) := fun z => ps (sp.pos.1.mpr z)
        rw [if_pos (Int32.not_lt.mp ps)] at lnq
        have rhs : (if bz (K 0 6) = 0 ∧ ¬ q_X7_lacksNext 12 K P B V = 0 then sD D (17 + 96 * k + 1) 1 else D) = D := if_neg (fun y => y.2 lnq)
        rw [rhs, if_neg py]
  · have rhs : (if bz (K 0 6) = 0 ∧ ¬ q_X7_lacksNext 12 K P B V = 0 then sD D (17 + 96 * k + 1) 1 else D) = D := if_neg (fun z => hv z.1)
    rw [rhs, (bz_or _).resolve_left hv, if_pos rfl]
theorem holdAll_loop {K : OneV} {B : TriV} {m : Nat} (h4 : K 0 4 = nI m) (m25 : m ≤ 25) (ha : ∀ j, j < m → ∃ e, e < 64 ∧ B 0 j = nI e) : ∀ (nn k : Nat) (V : MemV), k + nn = 25 → k ≤ m → (∀ q : Fin 12, q ≠ 5 → lp_X7_holdAll_2 K B nn k V q = V q) ∧ ∀ f, f < 64 → lp_X7_holdAll_2 K B nn k V 5 f = V 5 f + nI (cnt (fun j => decide (B 0 j = nI f)) k (m - k)) := by
  intro nn
  induction nn with
  | zero =>
    intro k V hk km
    have z : k = m := by omega
    have e : lp_X7_holdAll_2 K B 0 k V = V := by
      show (if (K 0 4) ≤ (nI k) then (V) else (V)) = V
      rw [ite_self]
    rw [e]
    refine ⟨fun _ _ => rfl, fun f _ => ?_⟩
    rw [z, Nat.sub_self]
    exact (Int32.add_zero _).symm
  | succ nn ih =>
    intro k V hk km
    have st : lp_X7_holdAll_2 K B (nn + 1) k V = (if (K 0 4) ≤ (nI k) then (V) else lp_X7_holdAll_2 K B nn (k + 1) (gV_X1_hold V (B 0 k))) := rfl
    rw [st, h4]
    by_cases z : k = m
    · rw [if_pos (nI_le (by omega) (by omega))]
      refine ⟨fun _ _ => rfl, fun f _ => ?_⟩
      rw [z, Nat.sub_self]
      exact (Int32.add_zero _).symm
    · obtain ⟨e, e64, be⟩ := ha k (by omega)
      rw [if_neg (nI_ge (show k < m by omega) (by omega)), be]
      obtain ⟨j1, j2⟩ := ih (k + 1) (gV_X1_hold V (nI e)) (by omega) (by omega)
      refine ⟨fun q h5 => by rw [j1 q h5, ho_k _ _ _ h5], fun f hf => ?_⟩
      rw [j2 f hf, ho_5 V e64, show m - k = (m - (k + 1)) + 1 by omega]
      show _ = V 5 f + nI ((if decide (B 0 k = nI f) = true then 1 else 0) + cnt (fun j => decide (B 0 j = nI f)) (k + 1) (m - (k + 1)))
      rw [be]
      by_cases w : f = e
      · rw [if_pos w, w, if_pos (by simp), ← nI_add, ← Int32.add_assoc]
        rfl
      · have : ¬ nI e = nI f := fun y => w ((nI_eq (by omega) (by omega)).mp y).symm
        rw [if_neg w, if_neg (by simp [this]), Nat.zero_add]
/-- a walker that turns heavy holds its way: what holds stays -/
theorem Inv.heavy {U : NodV} {V : MemV} {H : OneV} {W W' : WkV} {n vol t T : Nat} (i : Inv U V H W n vol t T (fun _ => 0)) {k : Nat} (hk : k < 4) {K : OneV} {P : RouV} {B : TriV} {m d l rr : Nat} (wk : W k = (K, P, B)) (wi : WkI V t T (K, P, B) m d l rr) (hv : bz (K 0 6) = 0) (uw : ¬ bz (K 0 5) = 0) (al : ∀ j, j < m → ∃ e, B 0 j = nI e ∧ At V e) (w1 : ∀ j, j ≠ k → W' j = W j) (wk' : W' k = (uv K 0 6 1, P, B)) : Inv U (gV_X7_holdAll (uv K 0 6 1) B V) H W' n vol t T (fun _ => 0) ∧ WkI (gV_X7_holdAll (uv K 0 6 1) B V) t T (uv K 0 6 1, P, B) m d l rr ∧ ∀ q : Fin 12, q ≠ 5 → gV_X7_holdAll (uv K 0 6 1) B V q = V q := by
  have b1 := wi.md
  have b2 := wi.dl
  have b3 := wi.l12
  have e4 : K 0 4 = nI m := wi.m
  have kj : ∀ j, j ≠ 6 → uv K 0 6 1 0 j = K 0 j := fun j q => uv_n _ _ _ _ _ _ (fun w => q w.2)
  have k6 : uv K 0 6 1 0 6 = 1 := uv_s _ _ _ _
  obtain ⟨j1, j2⟩ := holdAll_loop (K := uv K 0 6 1) (B := B) (m := m) ((kj 4 (by decide)).trans e4) (by omega) (fun j hj => by
    obtain ⟨e, e1, e2⟩ := al j hj
    exact ⟨e, e2.1, e1⟩) 25 0 V rfl (Nat.zero_le _)
  have eq : gV_X7_holdAll (uv K 0 6 1) B V = lp_X7_holdAll_2 (uv K 0 6 1) B 25 0 V := rfl
  rw [eq]
  have wI : WkI V t T (uv K 0 6 1, P, B) m d l rr := ⟨(kj 4 (by decide)).trans e4, (kj 8 (by decide)).trans wi.d, wi.l, (kj 7 (by decide)).trans wi.r, wi.m1, b1, b2, b3, wi.r3, fun j hj => by
    obtain ⟨e, e64, be, g, _⟩ := (wi.wy j hj).ex
    obtain ⟨f, f1, f2⟩ := al j hj
    have : f = e := (nI_eq (by have := f2.1; omega) (by omega)).mp (f1.symm.trans be)
    subst this
    exact ⟨f, e64, be, g, fun _ => ⟨by rw [f2.2.1]; exact i10, f2.2.2⟩⟩⟩
  refine ⟨i.wset hk w1 (fun f => cnt (fun j => decide (B 0 j = nI f)) 0 m) (fun f _ => ?_) (fun q _ h5 => j1 q h5) ⟨by rw [j1 0 (by decide)], by rw [j1 0 (by decide)], by rw [j1 0 (by decide)]⟩ (fun f hf _ => j2 f hf) (fun _ => ⟨m, d, l, rr, wi.r3, by rw [wk']; exact wI⟩), wI.fr (j1 1 (by decide)) (j1 4 (by decide)) (j1 6 (by decide)) (j1 8 (by decide)) (Nat.le_refl _) (Nat.le_refl _), j1⟩
  rw [wk', wk]
  show (if bz (uv K 0 6 1 0 5) = 0 ∨ bz (uv K 0 6 1 0 6) = 0 then 0 else cnt (fun k => decide (B 0 k = nI f)) 0 (ix (uv K 0 6 1 0 4))) = (if bz (K 0 5) = 0 ∨ bz (K 0 6) = 0 then 0 else cnt (fun k => decide (B 0 k = nI f)) 0 (ix (K 0 4))) + cnt (fun j => decide (B 0 j = nI f)) 0 m
  rw [if_pos (Or.inr hv), kj 5 (by decide), k6, if_neg (fun z => z.elim uw (by decide)), kj 4 (by decide), e4, ix_nI (by omega), Nat.zero_add]
theorem Rel.heavy {U : NodV} {V V' : MemV} {H : OneV} {W W' : WkV} {D : RowV} {n k : Nat} (r : Rel none U V H W D n) (k4 : k < 4) {K : OneV} {P : RouV} {B : TriV} {m : Nat} (wk : W k = (K, P, B)) (h4 : K 0 4 = nI m) (m25 : m ≤ 25) (uw : ¬ bz (K 0 5) = 0) (w1 : ∀ j, j ≠ k → W' j = W j) (wk' : W' k = (uv K 0 6 1, P, B)) (kv : ∀ q : Fin 12, q ≠ 5 → V' q = V q) : Rel (some k) U (tz V') H W' (sD D (17 + 96 * k + 1) 1) n := by
  have o : ∀ j, j ≠ 17 + 96 * k + 1 → sD D (17 + 96 * k + 1) 1 j = D j := fun j q => sD_n _ _ q
  have kj : ∀ j, j ≠ 6 → uv K 0 6 1 0 j = K 0 j := fun j q => uv_n _ _ _ _ _ _ (fun w => q w.2)
  have k6 : uv K 0 6 1 0 6 = 1 := uv_s _ _ _ _
  have k5 : bz (uv K 0 6 1 0 5) = bz (K 0 5) := by rw [kj 5 (by decide)]
  have rk := r.K k k4
  rw [wk] at rk
  obtain ⟨c1, c2, c3, c4⟩ := rk
  have d5 : D (17 + 96 * k + 5) = nI m := by
    have := r.M k k4 (by rw [wk]; exact uw) (fun z => by cases z)
    rw [wk] at this
    exact this.trans h4
  refine r.wch k4 (Or.inl rfl) (r.B.dd (fun j q => o j (by omega)) (fun q h0 h5 _ => by rw [tz_k V' q h0]; exact kv q h5) ⟨?_, ?_, ?_, ?_⟩) (fun j _ _ q => o j (by omega)) w1 ?_ ⟨m, 0, ?_, ?_, tz_16 V', by omega, by omega, ?_, fun j hj => by omega⟩
  · rw [tz_0 V' (by decide), kv 0 (by decide)]
  · rw [tz_0 V' (by decide), kv 0 (by decide)]
  · rw [tz_0 V' (by decide), kv 0 (by decide)]
  · rw [tz_0 V' (by decide), kv 0 (by decide)]
  · rw [wk']
    refine ⟨?_, fun q => ?_, fun q j hj h2 => ?_, fun q j hj h2 => ?_⟩
    · show sD D (17 + 96 * k + 1) 1 (17 + 96 * k + 0) = bz (uv K 0 6 1 0 5)
      rw [o _ (by omega), k5]; exact c1
    · obtain ⟨a1, a2, a3, a4⟩ := c2 uw
      show sD D (17 + 96 * k + 1) 1 (17 + 96 * k + 1) = bz (uv K 0 6 1 0 6) ∧ sD D (17 + 96 * k + 1) 1 (17 + 96 * k + 2) = uv K 0 6 1 0 7 ∧ sD D (17 + 96 * k + 1) 1 (17 + 96 * k + 3) = uv K 0 6 1 0 8 ∧ sD D (17 + 96 * k + 1) 1 (17 + 96 * k + 4) = P 0 1
      rw [sD_s, k6, o _ (by omega), o _ (by omega), o _ (by omega), kj 7 (by decide), kj 8 (by decide)]
      exact ⟨rfl, a2, a3, a4⟩
    · rw [o _ (by omega)]
      exact c3 uw j hj h2
    · have h2 : j < ix (uv K 0 6 1 0 4) := h2
      rw [kj 4 (by decide)] at h2
      rw [o _ (by omega), o _ (by omega), o _ (by omega)]
      exact c4 uw j hj h2
  · rw [wk']
    show ¬ bz (uv K 0 6 1 0 5) = 0
    rw [k5]; exact uw
  · rw [wk']
    exact (kj 4 (by decide)).trans h4
  · rw [o _ (by omega)]; exact d5

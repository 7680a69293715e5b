/-! A walker goes on, on both sides. -/
theorem wkS_ss (W : WkV) (k : Nat) (w w' : OneV × RouV × TriV) : wkS (wkS W k w) k w' = wkS W k w' := by
  funext j
  unfold wkS
  by_cases z : j = k
  · rw [if_pos z, if_pos z]
  · rw [if_neg z, if_neg z, if_neg z]
theorem wkS_id (W : WkV) (k : Nat) {w : OneV × RouV × TriV} (h : W k = w) : wkS W k w = W := by
  funext j
  unfold wkS
  by_cases z : j = k
  · rw [if_pos z, z, h]
  · rw [if_neg z]
/-- it may stop here -/
def Ovb (U : NodV) (V : MemV) (H : OneV) (W : WkV) (D : RowV) (n k : Nat) : Prop := ∀ (W' : WkV) (D' : RowV), (∀ j, j < 17 + 96 * k ∨ 17 + 96 * k + 96 ≤ j → D' j = D j) → D' (17 + 96 * k + 0) = 0 → (∀ j, j ≠ k → W' j = W j) → bz ((W' k).1 0 5) = 0 → Rel none U V H W' D' n
theorem Rel.ovb {U : NodV} {V V' : MemV} {H : OneV} {W : WkV} {D : RowV} {n k : Nat} (r : Rel (some k) U V' H W D n) (hv : V' = V ∨ V' = tz V) : Ovb U V H W D n k := by
  intro W' D' hD h0 w1 w0
  have k4 := (r.T k rfl).1
  have := r.wover k4 (Or.inr rfl) hD h0 w1 w0
  rcases hv with z | z
  · rw [← z]; exact this
  · rw [z] at this
    exact this.fr (this.B.fr (tz_sym V).1 (tz_sym V).2) (fun _ _ _ => rfl) (fun k z => by cases z)
/-- what a walker that went on has come to: q, its walker, the memory; the reference's row, and how its call goes on -/
def Gon (U : NodV) (H : OneV) (W0 : WkV) (n vol T k : Nat) (P : RouV) (l rr : Nat) (K0 : OneV) (I : MI) (J : MJ) (o : Int32 × OneV × TriV × MemV) (t : Nat) (ev : Option MO) : Prop := ∃ D' G' c' t' m' d' mm, t' ≤ t ∧ Inv U o.2.2.2 H (wkS W0 k (o.2.1, P, o.2.2.1)) n vol t' T (fun _ => 0) ∧ CntI o.2.2.2 ∧ (o.2.1 0 5 = K0 0 5 ∧ o.2.1 0 6 = K0 0 6 ∧ o.2.1 0 7 = K0 0 7) ∧ WkI o.2.2.2 t' T (o.2.1, P, o.2.2.1) m' d' l rr ∧ Ovb U o.2.2.2 H (wkS W0 k (o.2.1, P, o.2.2.1)) D' n k ∧ (1 ≤ mm ∧ mm ≤ 25 ∧ D' (17 + 96 * k + 5) = nI mm) ∧ (D' (17 + 96 * k + 1) = bz (o.2.1 0 6) ∧ D' (17 + 96 * k + 2) = o.2.1 0 7) ∧ ((∃ a', o.1 = nI a' ∧ At o.2.2.2 a' ∧ D' (17 + 96 * k + (18 + 3 * (mm - 1))) = nI a' ∧ D' (701 + 9 * a' + 3) = o.2.2.2 4 a' ∧ Rel (some k) U (tz o.2.2.2) H (wkS W0 k (o.2.1, P, o.2.2.1)) D' n ∧ (q_X7_isThrough 12 o.2.1 P = 0 → ¬ rr = 3) ∧ ev = if q_X7_isThrough 12 o.2.1 P = 0 then some (some (mI 0), (rF I D' G' c', J)) else (M_X10_isOver [mR (some 188), mI (nI k), mI 0] (rF I D' G' c', J)).bind fun u3 => (asI u3.1).bind fun y4 => some (some (mI y4), u3.2)) ∨ ((o.1 = -2 ∨ o.1 = -3) ∧ ev = (M_X10_isOver [mR (some 188), mI (nI k), mI o.1] (rF I D' G' c', J)).bind fun u3 => (asI u3.1).bind fun y4 => some (some (mI y4), u3.2)))
theorem thr_q {K : OneV} {P : RouV} {d l : Nat} (h8 : K 0 8 = nI d) (hl : P 0 1 = nI l) (dl : d ≤ l) (l12 : l ≤ 12) : q_X7_isThrough 12 K P = if d = l then 1 else 0 := by
  unfold q_X7_isThrough
  rw [h8, hl]
  by_cases z : d = l
  · rw [if_pos z, z, if_neg Int32.lt_irrefl]
  · rw [if_neg z, if_pos (nI_lt (by omega) (by omega))]
theorem w_isThrough {J : MJ} (h : RefL J) (I : MI) {k d l : Nat} (k4 : k < 4) (u3 : I 194 (17 + 96 * k + 3) = nI d) (u4 : I 194 (17 + 96 * k + 4) = nI l) (hd : d < 1000) (hl : l < 1000) : M_X10_isThrough [mR (some 188), mI (nI k)] (I, J) = some (some (mI (if d = l then 1 else 0)), (I, J)) := by
  rw [E_X10_isThrough]
  simp only [h.kt, if_true, w_walkerHas h I 3 (show (3 : Int32) = nI 3 from rfl) k4 (by decide), w_walkerHas h I 4 (show (4 : Int32) = nI 4 from rfl) k4 (by decide), Option.bind_some, asI_I, u3, u4]
  by_cases z : d = l
  · rw [if_pos z, z]
    simp
  · rw [if_neg z, if_neg (fun y => z ((nI_eq (by omega) (by omega)).mp y))]
    simp
theorem goOn_neg (L : Nat) (P : RouV) (U : NodV) (x2 : Int32) (nn k : Nat) {x : Int32} (h : x < 0) (K : OneV) (B : TriV) (V : MemV) : lp_X7_goOn_89 L P U x2 nn k x K B V = (x, K, B, V) := by
  cases nn with
  | zero => rfl
  | succ nn => exact if_pos h
theorem step_loop {U : NodV} {H : OneV} {W0 : WkV} {n vol T k : Nat} {J : MJ} (h : RefL J) (I : MI) (hb : I 188 20 = -1) (hw21 : I 188 21 = -1) {P : RouV} {l rr : Nat} {x2 at1 : Int32} (hat : at1 = if rr = 3 then 1 else 0) {K0 : OneV} : ∀ (nn j : Nat) (V : MemV) (D G : RowV) (c : Int32) (K : OneV) (B : TriV) (m d t a : Nat), Rel (some k) U (tz V) H (wkS W0 k (K, P, B)) D n → Inv U V H (wkS W0 k (K, P, B)) n vol t T (fun _ => 0) → CntI V → WkI V t T (K, P, B) m d l rr → ¬ bz (K 0 5) = 0 → (K 0 5 = K0 0 5 ∧ K 0 6 = K0 0 6 ∧ K 0 7 = K0 0 7) → B 0 (m - 1) = nI a → At V a → t + 2 * nn ≤ T → (rr = 3 → l - d ≤ nn) → (¬ rr = 3 → nn ≤ 1) → Gon U H W0 n vol T k P l rr K0 I J (lp_X7_goOn_89 12 P U x2 nn j (nI a) K B V) (t + 2 * nn) (Ev T_X10_step 60 [some (mR (some 188)), some (mI (nI k)), some (mI at1), some (mI 0), some (mI (if nn = 0 ∧ ¬ rr = 3 then 0 else 1))] [] (rF I D G c, J)) := by
  intro nn
  induction nn with
  | zero =>
    intro j V D G c K B m d t a r i C wi uw k0 last ha tT hl hn
    have b1 := wi.md
    have b2 := wi.dl
    have b3 := wi.l12
    have b4 := wi.m1
    have e4 : K 0 4 = nI m := wi.m
    have e8 : K 0 8 = nI d := wi.d
    have el : P 0 1 = nI l := wi.l
    obtain ⟨k4, m', tl', t1, t2, t3, t4, t5, t6, _⟩ := r.T k rfl
    have z : tl' = 0 := (nI_eq (by omega) (by omega)).mp (t3.symm.trans (tz_16 V))
    subst z
    rw [wkS_s] at t2
    have mm : m' = m := (nI_eq (by omega) (by omega)).mp (t2.symm.trans e4)
    subst mm
    have rk := r.K k k4
    rw [wkS_s] at rk
    obtain ⟨u1, u2, u3, u4⟩ := rk.un uw
    have u3 : D (17 + 96 * k + 3) = nI d := u3.trans e8
    have u4 : D (17 + 96 * k + 4) = nI l := u4.trans el
    have wy := (rk.wy uw (m' - 1) (by omega) (by show m' - 1 < ix (K 0 4); rw [e4, ix_nI (by omega)]; omega)).1
    have nh : ∀ f, f < 96 → ∀ (z : Int32), z = nI f → M_X10_walkerHas [mR (some 188), mI (nI k), mI z] (rF I D G c, J) = some (some (mI (D (17 + 96 * k + f))), (rF I D G c, J)) := fun f hf z hz => by
      rw [w_walkerHas h _ f hz k4 hf, rF_D]
    have thr := thr_q e8 el b2 b3
    have thE : M_X10_isThrough [mR (some 188), mI (nI k)] (rF I D G c, J) = some (some (mI (if d = l then 1 else 0)), (rF I D G c, J)) := w_isThrough h _ k4 (by rw [rF_D]; exact u3) (by rw [rF_D]; exact u4) (by omega) (by omega)
    have en := r.B.en a ha.1 (by rw [tz_k V 1 (by decide), ha.2.1]; exact i10)
    refine ⟨D, G, c, t, m', d, m', by omega, i, C, k0, wi, r.ovb (Or.inr rfl), ⟨b4, by omega, t6⟩, ⟨u1, u2⟩, Or.inl ⟨a, rfl, ha, wy.trans last, (show D (701 + 9 * a + 3) = V 4 a by rw [en.2.2.1, tz_k V 4 (by decide)]), r, fun z y => ?_, ?_⟩⟩
    · have z : q_X7_isThrough 12 K P = 0 := z
      rw [thr] at z
      have := hl y
      rw [if_pos (by omega)] at z
      exact absurd z (by decide)
    · show _ = if q_X7_isThrough 12 K P = 0 then _ else _
      rw [thr, E_X10_step_60]
      by_cases r3 : rr = 3
      · have := hl r3
        have dl : d = l := by omega
        rw [if_neg (show ¬ (0 = 0 ∧ ¬ rr = 3) from fun z => z.2 r3), if_neg i10, if_pos rfl, if_pos dl, if_neg i10]
        simp only [h.kt, if_true, thE, if_pos dl, Option.bind_some, asI_I, if_neg i10]
      · rw [if_pos (show 0 = 0 ∧ ¬ rr = 3 from ⟨rfl, r3⟩), if_pos rfl, if_pos rfl]
        by_cases dl : d = l
        · simp only [h.kt, if_true, thE, if_pos dl, Option.bind_some, asI_I, if_neg i10]
        · simp only [h.kt, if_true, thE, if_neg dl, Option.bind_some, asI_I]
  | succ nn ih =>
    intro j V D G c K B m d t a r i C wi uw k0 last ha tT hl hn
    have b1 := wi.md
    have b2 := wi.dl
    have b3 := wi.l12
    have b4 := wi.m1
    have e4 : K 0 4 = nI m := wi.m
    have e8 : K 0 8 = nI d := wi.d
    have el : P 0 1 = nI l := wi.l
    obtain ⟨k4, m', tl', t1, t2, t3, t4, t5, t6, _⟩ := r.T k rfl
    have z : tl' = 0 := (nI_eq (by omega) (by omega)).mp (t3.symm.trans (tz_16 V))
    subst z
    rw [wkS_s] at t2
    have mm : m' = m := (nI_eq (by omega) (by omega)).mp (t2.symm.trans e4)
    subst mm
    have rk := r.K k k4
    rw [wkS_s] at rk
    obtain ⟨u1, u2, u3, u4⟩ := rk.un uw
    have u3 : D (17 + 96 * k + 3) = nI d := u3.trans e8
    have u4 : D (17 + 96 * k + 4) = nI l := u4.trans el
    have wy := (rk.wy uw (m' - 1) (by omega) (by show m' - 1 < ix (K 0 4); rw [e4, ix_nI (by omega)]; omega)).1
    have nh : ∀ f, f < 96 → ∀ (z : Int32), z = nI f → M_X10_walkerHas [mR (some 188), mI (nI k), mI z] (rF I D G c, J) = some (some (mI (D (17 + 96 * k + f))), (rF I D G c, J)) := fun f hf z hz => by
      rw [w_walkerHas h _ f hz k4 hf, rF_D]
    have thr := thr_q e8 el b2 b3
    have thE : M_X10_isThrough [mR (some 188), mI (nI k)] (rF I D G c, J) = some (some (mI (if d = l then 1 else 0)), (rF I D G c, J)) := w_isThrough h _ k4 (by rw [rF_D]; exact u3) (by rw [rF_D]; exact u4) (by omega) (by omega)
    have lp : lp_X7_goOn_89 12 P U x2 (nn + 1) j (nI a) K B V = (if (nI a) < 0 then ((nI a), K, B, V) else (if (q_X7_isThrough 12 K P) = 0 then lp_X7_goOn_89 12 P U x2 nn (j + 1) (q_X1_stepFrom U V (nI a) (q_X4_stepAt 12 P (K 0 8))) (gK_X7_takeTrail (uv K 0 8 ((K 0 8) + 1)) B (gV_X1_stepFrom U V (nI a) (q_X4_stepAt 12 P (K 0 8)))) (gB_X7_takeTrail (uv K 0 8 ((K 0 8) + 1)) B (gV_X1_stepFrom U V (nI a) (q_X4_stepAt 12 P (K 0 8)))) (gV_X7_takeTrail (uv K 0 8 ((K 0 8) + 1)) B (gV_X1_stepFrom U V (nI a) (q_X4_stepAt 12 P (K 0 8)))) else ((nI a), K, B, V))) := rfl
    rw [lp, if_neg (nI_pos (show a < 2 ^ 31 by have := ha.1; omega)), thr, if_neg (show ¬ (nn + 1 = 0 ∧ ¬ rr = 3) from fun z => by omega)]
    by_cases dl : d = l
    · rw [if_pos dl, if_neg i10]
      have en := r.B.en a ha.1 (by rw [tz_k V 1 (by decide), ha.2.1]; exact i10)
      refine ⟨D, G, c, t, m', d, m', by omega, i, C, k0, wi, r.ovb (Or.inr rfl), ⟨b4, by omega, t6⟩, ⟨u1, u2⟩, Or.inl ⟨a, rfl, ha, wy.trans last, (show D (701 + 9 * a + 3) = V 4 a by rw [en.2.2.1, tz_k V 4 (by decide)]), r, fun z => ?_, ?_⟩⟩
      · have z : q_X7_isThrough 12 K P = 0 := z
        rw [thr, if_pos dl] at z
        exact absurd z (by decide)
      · show _ = if q_X7_isThrough 12 K P = 0 then _ else _
        rw [thr, E_X10_step_60, if_neg i10, if_pos rfl, if_pos dl, if_neg i10]
        simp only [h.kt, if_true, thE, if_pos dl, Option.bind_some, asI_I, if_neg i10]
    · rw [if_neg dl, if_pos rfl]
      obtain ⟨D1, G1, c1, how, t', K', B', V', s1, s2, s3, ⟨q1, q2, q3⟩, i1, C1, ⟨f5, f6, f7, f8⟩, cs⟩ := r.does i C h I hb hw21 G c (wkS_s _ _ _) wi (by omega) ha last (by omega)
      rw [wkS_ss] at i1 cs
      rw [← q1, ← q2, ← q3]
      generalize q_X1_stepFrom U V (nI a) (q_X4_stepAt 12 P (K 0 8)) = qq at cs ⊢
      have ev : Ev T_X10_step 60 [some (mR (some 188)), some (mI (nI k)), some (mI at1), some (mI 0), some (mI 1)] [] (rF I D G c, J) = Ev T_X10_step 60 [some (mR (some 188)), some (mI (nI k)), some (mI at1), some (mI how), some (mI at1)] [] (rF I D1 G1 c1, J) := by
        rw [E_X10_step_60, if_neg i10, if_pos rfl]
        simp only [h.kt, if_true, thE, if_neg dl, Option.bind_some, asI_I, s1]
      rw [ev]
      have k0' : K' 0 5 = K0 0 5 ∧ K' 0 6 = K0 0 6 ∧ K' 0 7 = K0 0 7 := ⟨f5.trans k0.1, f6.trans k0.2.1, f7.trans k0.2.2⟩
      rcases cs with ⟨h0, a', m2, qa, at', wi', last', r'⟩ | ⟨hh, qh, wi', ⟨m2, m21, m22, m23⟩, r'⟩
      · subst h0
        rw [qa]
        have xe : at1 = if nn = 0 ∧ ¬ rr = 3 then 0 else 1 := by
          rw [hat]
          by_cases r3 : rr = 3
          · rw [if_pos r3, if_neg (fun z => z.2 r3)]
          · have := hn r3
            rw [if_neg r3, if_pos ⟨by omega, r3⟩]
        have g := ih (j + 1) V' D1 G1 c1 K' B' m2 (d + 1) t' a' r' i1 C1 wi' (by rw [f5]; exact uw) k0' last' at' (by omega) (fun z => by have := hl z; omega) (fun z => by have := hn z; omega)
        rw [← xe] at g
        obtain ⟨x1, x2, x3, x4, x5, x6, x7, y1, y2⟩ := g
        exact ⟨x1, x2, x3, x4, x5, x6, x7, by omega, y2⟩
      · have hneg : how < 0 := by rcases hh with z | z <;> rw [z] <;> decide
        have h0 : ¬ how = 0 := by rcases hh with z | z <;> rw [z] <;> decide
        rw [qh, goOn_neg 12 P U x2 nn (j + 1) hneg]
        have rk' := r'.K k k4
        rw [wkS_s] at rk'
        have un' := rk'.un (by show ¬ bz (K' 0 5) = 0; rw [f5]; exact uw)
        refine ⟨D1, G1, c1, t', m', d + 1, m2, by omega, i1, C1, k0', wi', r'.ovb (Or.inl rfl), ⟨m21, m22, m23⟩, ⟨un'.1, un'.2.1⟩, Or.inr ⟨hh, ?_⟩⟩
        rw [E_X10_step_60]
        by_cases y : at1 = 0
        · rw [if_pos y, if_neg h0]
          simp only [h.kt, if_true]
        · rw [if_neg y, if_neg h0, if_neg h0]
          simp only [h.kt, if_true]

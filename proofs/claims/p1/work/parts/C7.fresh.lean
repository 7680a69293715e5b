/-! A world that begins. -/
def FrV (V : MemV) : Prop := (∀ e, e < 64 → V 1 e = if e = 0 then 1 else 0) ∧ (V 2 0 = -1 ∧ V 3 0 = 0 ∧ V 4 0 = nI 0 ∧ V 5 0 = 0 ∧ V 6 0 = 0 ∧ V 7 0 = 0 ∧ V 8 0 = 0) ∧ (V 0 11 = 40 ∧ V 0 12 = 1 ∧ V 0 13 = 0 ∧ V 0 14 = 0) ∧ (V 9 0 = 0 ∧ V 9 1 = -1 ∧ V 9 2 = -1) ∧ ∀ v, v < 3 → V 10 v = -1
theorem FrV.inv {U : NodV} {V : MemV} {n vol T : Nat} (h : FrV V) (hN : NodI U n vol) (hT : 1 ≤ T) (h30 : T ≤ 1000000000) : Inv U V H00 W00 n vol 1 T (fun _ => 0) ∧ CntI V := by
  obtain ⟨r1, ⟨r2, r3, r4, r5, r6, r7, r8⟩, ⟨n11, n12, n13, n14⟩, ⟨q0, q1, q2⟩, r10⟩ := h
  have e0 : V 1 0 = 1 := by rw [r1 0 (by decide), if_pos rfl]
  have is0 : ∀ e, e < 64 → ¬ V 1 e = 0 → e = 0 := fun e he z => by
    rw [r1 e he] at z
    by_cases w : e = 0
    · exact w
    · rw [if_neg w] at z; exact absurd rfl z
  have is1 : ∀ e, e < 64 → V 1 e = 1 → e = 0 := fun e he z => is0 e he (by rw [z]; exact i10)
  have not2 : ∀ e, e < 64 → ¬ V 1 e = 2 := fun e he z => by
    have : e = 0 := is0 e he (by rw [z]; decide)
    rw [this, e0] at z
    exact absurd z (by decide)
  have c1 : cnt (fun k => decide (¬ V 1 k = 0)) 0 64 = 1 := by
    have e : cnt (fun k => decide (¬ V 1 k = 0)) 0 64 = (if decide (¬ V 1 0 = 0) = true then 1 else 0) + cnt (fun k => decide (¬ V 1 k = 0)) 1 63 := rfl
    rw [e, cnt_zero (fun i a b => ?_), e0]
    · rfl
    · simp only [decide_eq_false_iff_not, Classical.not_not]
      rw [r1 i (by omega), if_neg (by omega)]
  have rts : U 5 0 = nI 0 := hN.r00
  have v9 : ∀ v, v < 3 → v ≠ 0 → V 9 v = -1 := fun v hv z => by
    have : v = 1 ∨ v = 2 := by omega
    rcases this with w | w <;> subst w
    · exact q1
    · exact q2
  refine ⟨⟨hN, ⟨fun e he => ?_, ⟨0, by decide, q0⟩, r10 0 (by decide), fun v hv => ?_, fun v h1 h3 z => ?_, fun v w hv hw z _ => absurd (r10 v hv) z, ⟨fun _ => 0, fun v o k u h1 h2 h3 h4 => ?_⟩, fun e he z _ => ⟨0, by decide, ?_⟩, fun e he z w => ?_, fun e he z => absurd z (not2 e he), fun e f he hf z1 z2 _ _ _ => ?_, fun e f he hf z1 z2 _ _ => ?_⟩, ⟨n12, hT, h30, fun e he z => ?_, fun e he z => ?_, ⟨40, n11, by decide, by decide⟩, ⟨0, n14, ?_⟩⟩, fun e he => ⟨fun _ => rfl, Nat.zero_le _, fun z => ?_⟩, fun k hk => Or.inl rfl, fun k hk z => absurd rfl z⟩, ?_⟩
  · rw [r1 e he]
    split
    · exact Or.inr (Or.inl rfl)
    · exact Or.inl rfl
  · by_cases z : v = 0
    · subst z
      exact Or.inr ⟨hN.v3.1, 0, by decide, q0, e0, r2, by rw [r4, rts]⟩
    · exact Or.inl ⟨v9 v hv z, r10 v hv⟩
  · exact absurd (v9 v h3 (by omega)) z
  · rw [r10 v h2] at h4
    exact absurd h4.symm (nI_m1 (by omega))
  · rw [is1 e he z]; exact q0
  · rw [is1 e he z] at w
    exact absurd r2 w
  · rw [is1 e he z1, is1 f hf z2]
  · rw [is0 e he z1, is0 f hf z2]
  · rw [is0 e he z]
    exact ⟨0, r8, by decide⟩
  · rw [is0 e he z]
    exact ⟨0, r6, by omega⟩
  · rw [c1]; omega
  · have ee := is0 e he z
    subst ee
    rw [hc00 V (by decide)]
    have h1 : hcC V 0 = 0 := by
      unfold hcC
      refine cnt_zero (fun i a b => ?_)
      simp only [decide_eq_false_iff_not]
      rintro ⟨x1, x2⟩
      rw [is0 i (by omega) x1, r2] at x2
      exact absurd x2.symm (nI_m1 (by decide))
    have h2 : hcV V 0 = 0 := by
      unfold hcV
      refine cnt_zero (fun i a b => ?_)
      simp only [decide_eq_false_iff_not]
      rw [r10 i (by omega)]
      exact fun x => nI_m1 (show 0 < 2 ^ 31 by decide) x.symm
    rw [h1, h2]
    exact ⟨r5, fun w => absurd w (not2 0 he)⟩
  · unfold CntI
    rw [c1]
    omega
theorem FrV.rel {U : NodV} {S : RowV} {V : MemV} {D : RowV} {n vol : Nat} (h : FrV V) (hD : DI U S n vol) (f : FrD D n S) : Rel none U V H00 W00 D n := by
  obtain ⟨r1, ⟨r2, r3, r4, r5, r6, r7, r8⟩, ⟨n11, n12, n13, n14⟩, ⟨q0, q1, q2⟩, r10⟩ := h
  obtain ⟨⟨d0, d1, d2, d3, d4, d5, d6, d7⟩, d8, d11, d17, dn, de, ⟨x1, x2, x3, x4, x5, x6, x7, x8⟩⟩ := f
  have e0 : V 1 0 = 1 := by rw [r1 0 (by decide), if_pos rfl]
  have is0 : ∀ e, e < 64 → ¬ V 1 e = 0 → e = 0 := fun e he z => by
    rw [r1 e he] at z
    by_cases w : e = 0
    · exact w
    · rw [if_neg w] at z; exact absurd rfl z
  refine ⟨⟨by rw [d0, n12], by rw [d1, n13], by rw [d2, n14], by rw [d3, n11], by rw [d4, hD.1.1], fun v hv => ?_, fun v hv => by rw [d8 v hv, r10 v hv], fun k hk => by rw [d11 k hk]; rfl, fun k hk => ?_, fun e he => ?_, fun e he z => ?_⟩, fun k hk => ⟨by rw [d17 k hk]; rfl, fun z => absurd rfl z, fun z => absurd rfl z, fun z => absurd rfl z⟩, fun k hk z => absurd rfl z, fun k z => by cases z⟩
  · have : v = 0 ∨ v = 1 ∨ v = 2 := by omega
    rcases this with w | w | w <;> subst w
    · exact d5.trans q0.symm
    · exact d6.trans q1.symm
    · exact d7.trans q2.symm
  · obtain ⟨y0, y1, y2, y3, y4⟩ := dn k hk
    obtain ⟨z0, z2, z1⟩ := hD.2.1 k hk
    rw [y0, y1, y2, y3, y4, if_neg (hD.kd hk)]
    refine ⟨z0, z2, ?_, rfl, fun _ => ?_⟩
    · rcases hD.2.2.1 k hk with ⟨_, w1, w2, _⟩ | ⟨p, _, _, _, _, w⟩
      · exact Or.inr ⟨w1, w2⟩
      · exact Or.inl w
    · rcases z1 with ⟨w1, w2⟩ | ⟨w1, w2⟩
      · rw [w1, w2]; rfl
      · rw [w1, w2]; rfl
  · rw [de e he]
    by_cases z : e = 0
    · subst z
      rw [if_pos rfl, if_pos ⟨by decide, by rw [e0]; exact i10⟩]
    · rw [if_neg z]
      rw [if_neg]
      rintro ⟨a, b⟩
      exact z (is0 e a b)
  · have ee := is0 e he z
    subst ee
    have cv : q_X1_coveringVolume V (nI 0) = -1 := by
      show oI (f_X1_coveringVolume V (nI 0)) = -1
      have : f_X1_coveringVolume V (nI 0) = none := by
        refine fst_no (fun i a b => ?_)
        rw [r10 i (by omega)]
        decide
      rw [this]
      rfl
    rw [r2, r3, r4, r6, r7, r8, cv, e0]
    exact ⟨x1, Or.inr ⟨rfl, x2⟩, x3, x4, x5, x6, x7, x8⟩
/-- the class's memory when a world begins -/
theorem FrV.new {U : NodV} (V : MemV) (hr : q_X2_rootOf U 0 = nI 0) : FrV (gV_X1_startAnew U V) := by
  have base : ∀ W : MemV, W = uv (uv (uv (uv (uv (cpv (cpv (cpv V 1 64 (fun _ => 0)) 9 3 (fun _ => (-1))) 10 3 (fun _ => (-1))) 0 11 40) 0 12 0) 0 13 0) 0 14 0) 0 16 0 → (∀ e, e < 64 → W 1 e = 0) ∧ (∀ v, v < 3 → W 9 v = -1 ∧ W 10 v = -1) ∧ W 0 11 = 40 ∧ W 0 12 = 0 ∧ W 0 13 = 0 ∧ W 0 14 = 0 := by
    intro W e
    subst e
    refine ⟨fun e he => ?_, fun v hv => ⟨?_, ?_⟩, ?_, ?_, ?_, ?_⟩
    · simp [uv, cpv, he]
    · simp [uv, cpv, hv]
    · simp [uv, cpv, hv]
    · simp [uv]
    · simp [uv]
    · simp [uv]
    · simp [uv]
  unfold gV_X1_startAnew
  rw [hr]
  obtain ⟨b1, b9, b11, b12, b13, b14⟩ := base _ rfl
  generalize uv (uv (uv (uv (uv (cpv (cpv (cpv V 1 64 (fun _ => 0)) 9 3 (fun _ => (-1))) 10 3 (fun _ => (-1))) 0 11 40) 0 12 0) 0 13 0) 0 14 0) 0 16 0 = W at b1 b9 b11 b12 b13 b14
  have lu : f_X1_leastUnused W = some 0 := by
    refine fst_is (Nat.le_refl _) (by decide) ?_ (fun i a b => by omega)
    rw [b1 0 (by decide)]
    rfl
  rw [ad_q lu]
  have k : ∀ q : Fin 12, q ≠ 9 → uv (gV_X1_add W (-1) 0 (nI 0)) 9 0 (nI 0) q = gV_X1_add W (-1) 0 (nI 0) q := fun q hq => uv_k _ _ _ _ _ hq
  refine ⟨fun e he => ?_, ⟨?_, ?_, ?_, ?_, ?_, ?_, ?_⟩, ⟨?_, ?_, ?_, ?_⟩, ⟨?_, ?_, ?_⟩, fun v hv => ?_⟩
  · rw [k 1 (by decide), ad_1 lu, b1 e he]
  · rw [k 2 (by decide), ad_2 lu, if_pos rfl]
  · rw [k 3 (by decide), ad_3 lu, if_pos rfl]
  · rw [k 4 (by decide), ad_4 lu, if_pos rfl]
  · rw [k 5 (by decide), ad_5r lu, if_pos rfl]
  · rw [k 6 (by decide), ad_6 lu, if_pos rfl]
  · rw [k 7 (by decide), ad_7 lu, if_pos rfl, b12]
  · rw [k 8 (by decide), ad_8 lu, if_pos rfl, b12]
  · rw [k 0 (by decide), ad_0 lu _ _ _ _ (by decide) (by decide), b11]
  · rw [k 0 (by decide), ad_t lu, b12]; rfl
  · rw [k 0 (by decide), ad_0 lu _ _ _ _ (by decide) (by decide), b13]
  · rw [k 0 (by decide), ad_0 lu _ _ _ _ (by decide) (by decide), b14]
  · exact uv_s _ _ _ _
  · rw [uv_n _ _ _ _ _ _ (by decide), ad_k lu _ _ _ _ (Or.inl rfl), (b9 1 (by decide)).1]
  · rw [uv_n _ _ _ _ _ _ (by decide), ad_k lu _ _ _ _ (Or.inl rfl), (b9 2 (by decide)).1]
  · rw [k 10 (by decide), ad_k lu _ _ _ _ (Or.inr rfl), (b9 v hv).2]
/-- a world begun with a draft -/
theorem Wd.new {I : MI} {n2 n m g w N vol T : Nat} {S D : RowV} (hD : DI (vw 6 I n2) S N vol) (h1 : 1 ≤ vol) (f : FrD D N S) (d1 : n + 6 ≤ m) (d2 : m + 12 ≤ g) (d3 : g < w) (hT : 1 ≤ T) (h30 : T ≤ 1000000000) : Wd (h_X8_startWith I n2 n m g w) n m g w D vol T := by
  have itr_out : ∀ (q k : Nat) (X : MI) {x : Nat}, (x < w ∨ w + 24 ≤ x) → k + q ≤ 4 → itr (fun k I => up2 I (w + 6 * k) 5 0) k q X x = X x := by
    intro q
    induction q with
    | zero => intro k X x _ _; rfl
    | succ q ih =>
      intro k X x hx hk
      show itr (fun k I => up2 I (w + 6 * k) 5 0) (k + 1) q (up2 X (w + 6 * k) 5 0) x = X x
      rw [ih (k + 1) _ hx (by omega), up2_o _ _ _ (by omega)]
  have o : ∀ x, (x < w ∨ w + 24 ≤ x) → h_X8_startWith I n2 n m g w x = fun y => if x = g ∧ y < 6 then (-1) else (pt (pt I n (gU_X2_copyFrom (vw 6 I n2) (vw 6 I n))) m (gV_X1_startAnew (gU_X2_copyFrom (vw 6 I n2) (vw 6 I n)) (vw 12 I m))) x y := by
    intro x hx
    unfold h_X8_startWith
    rw [itr_out 4 0 _ hx (by decide)]
  have eU : vw 6 (h_X8_startWith I n2 n m g w) n = gU_X2_copyFrom (vw 6 I n2) (vw 6 I n) := by
    funext k j
    have := k.isLt
    show h_X8_startWith I n2 n m g w (n + k.val) j = _
    rw [o _ (by omega)]
    show (if n + k.val = g ∧ j < 6 then _ else _) = _
    rw [if_neg (by omega), pt_out (by omega), pt_in]
  have eV : vw 12 (h_X8_startWith I n2 n m g w) m = gV_X1_startAnew (gU_X2_copyFrom (vw 6 I n2) (vw 6 I n)) (vw 12 I m) := by
    funext k j
    have := k.isLt
    show h_X8_startWith I n2 n m g w (m + k.val) j = _
    rw [o _ (by omega)]
    show (if m + k.val = g ∧ j < 6 then _ else _) = _
    rw [if_neg (by omega), pt_in]
  have uc := UEq.copy (vw 6 I n2) (vw 6 I n)
  have rt : q_X2_rootOf (gU_X2_copyFrom (vw 6 I n2) (vw 6 I n)) 0 = nI 0 := by
    unfold q_X2_rootOf q_X2_hasVolume
    rw [if_neg (show ¬ (0 : Int32) < 0 by decide), if_neg (show ¬ (3 : Int32) ≤ 0 by decide), uc.2.1, hD.1.2.2.1, if_neg (show ¬ nI vol ≤ 0 from nI_ge (a := 0) h1 (by have := hD.1.2.2.2; omega)), if_neg i10]
    exact (uc.2.2.2 0 (by decide)).trans (hD.2.2.2.2.2.1 h1)
  have fv := FrV.new (U := gU_X2_copyFrom (vw 6 I n2) (vw 6 I n)) (vw 12 I m) rt
  obtain ⟨iv, cv⟩ := fv.inv (hD.nod h1) hT h30
  have rv := fv.rel hD f
  have hH : HEq' (vw 1 (h_X8_startWith I n2 n m g w) g) H00 := by
    intro k hk
    show h_X8_startWith I n2 n m g w (g + 0) k = -1
    rw [Nat.add_zero, o g (by omega)]
    exact if_pos ⟨rfl, hk⟩
  have at5 : ∀ (q k : Nat) (X : MI) (j : Nat), k ≤ j → j < k + q → itr (fun k I => up2 I (w + 6 * k) 5 0) k q X (w + 6 * j) 5 = 0 := by
    intro q
    induction q with
    | zero => intro k X j a b; omega
    | succ q ih =>
      intro k X j a b
      show itr (fun k I => up2 I (w + 6 * k) 5 0) (k + 1) q (up2 X (w + 6 * k) 5 0) (w + 6 * j) 5 = 0
      rcases Nat.eq_or_lt_of_le a with z | z
      · subst z
        have keep : ∀ (q i : Nat) (X : MI), k < i → X (w + 6 * k) 5 = 0 → itr (fun k I => up2 I (w + 6 * k) 5 0) i q X (w + 6 * k) 5 = 0 := by
          intro q
          induction q with
          | zero => intro i X _ e; exact e
          | succ q ih2 =>
            intro i X hi e
            show itr (fun k I => up2 I (w + 6 * k) 5 0) (i + 1) q (up2 X (w + 6 * i) 5 0) (w + 6 * k) 5 = 0
            refine ih2 (i + 1) _ (by omega) ?_
            rw [up2_o _ _ _ (by omega)]
            exact e
        exact keep q (k + 1) _ (by omega) (up2_s _ _ _ _)
      · exact ih (k + 1) _ j (by omega) (by omega)
  have hW : ∀ k, k < 4 → WkEq (wks (h_X8_startWith I n2 n m g w) w k) (W00 k) := by
    intro k hk
    refine ⟨?_, fun z => absurd rfl z⟩
    show bz (h_X8_startWith I n2 n m g w (w + 6 * k + 0) 5) = bz 0
    rw [Nat.add_zero]
    unfold h_X8_startWith
    rw [at5 4 0 _ k (Nat.zero_le _) (by omega)]
  refine ⟨N, 1, ?_, ?_, ?_⟩
  · refine iv.cg ?_ ?_ hH hW
    · rw [eU]; exact uc
    · rw [eV]; exact VEq.refl _
  · rw [eV]; exact cv
  · refine rv.cg (by have := hD.1.2.1; omega) ?_ ?_ hH hW (fun _ _ => rfl)
    · rw [eU]; exact uc
    · rw [eV]; exact VEq.refl _

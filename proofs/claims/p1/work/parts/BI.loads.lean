/-! What a trace loads, on both sides. -/
/-- one room of the reference's -/
def RLo (I : MI) (J : MJ) (L : Nat) (val : Nat → Nat → Int32) : Prop := ∀ (Y : MI), (∀ k, k < 1853 → Y 194 k = I 194 k) → Y 202 = I 202 → Y 203 = I 203 → (∀ j, j ≠ 22 → Y 188 j = I 188 j) → ∀ r, r < 37 → ∃ Y', M_X10_laysLoads [mR (some 188), mI (nI (4 + r))] (Y, J) = some (some (mI (val r L - val r 0)), (Y', J)) ∧ (∀ x, x ≠ 188 → x ≠ 193 → x ≠ 194 → x ≠ 195 → x ≠ 196 → x ≠ 200 → x ≠ 206 → Y' x = Y x) ∧ (∀ j, j ≠ 22 → Y' 188 j = Y 188 j) ∧ (∀ k, k < 1853 → Y' 194 k = Y 194 k) ∧ ∀ j, j < 492 → Y' 206 j = if 12 * (4 + r) ≤ j ∧ j < 12 * (4 + r) + L then val r (j - 12 * (4 + r) + 1) - val r (j - 12 * (4 + r)) else Y 206 j
theorem trc_pre {I : MI} {J : MJ} {T B0 : Nat} (h : St I J T B0) (h30 : T + 10001 ≤ 1000000000) : ∃ L, L ≤ 12 ∧ I 69 1 = nI L ∧ I 188 36 = nI L ∧ I 69 2 = I 188 37 ∧ (L = 0 ∨ ∃ val : Nat → Nat → Int32, (∀ r, r < 37 → (∀ p, p < L → allI I L (96 + r) p = val r (p + 1) - val r p) ∧ allI I L 133 r = val r L - val r 0) ∧ (∀ r, r < 37 → rI (prep I 69 17) 69 1 r L 133 r = val r L - val r 0 ∧ ∀ x, (x < 70 ∨ 134 ≤ x) → rI (prep I 69 17) 69 1 r L x = I x) ∧ RLo I J L val) := by
  obtain ⟨L, s1, s2, s3, s4, s5⟩ := h.2.2.2.2.2.2.2.1
  refine ⟨L, s2, s1, s3, s4, ?_⟩
  rcases h.2.2.2.2.2.2.2.2.2 with ⟨vol, ad, p, q, hv, td, ⟨nn, t, i, c, r⟩, hs⟩ | u
  · refine Or.inr ?_
    have s8 := h.2.2.2.2.2.2.2.2.1
    have tT := i.Z.tT
    have i' := i.T (show T ≤ T + 10001 by omega) h30
    have vc := VEq.copy (vw 12 I 17) (vw 12 I 70)
    have tri := i.Z.tri
    obtain ⟨z, z1, z2⟩ := tri
    have z30 : z ≤ 1000000000 := by have := i.Z.T30; omega
    have Bz : gV_X1_keepMountsAlone (gV_X1_copyFrom (vw 12 I 17) (vw 12 I 70)) 0 14 = nI z := by
      rw [(bare_q _).1 0 (by decide) (by decide), vc.1.2.2.2]
      exact z1
    have prepE : prep I 69 17 = pt I 70 (gV_X1_keepMountsAlone (gV_X1_copyFrom (vw 12 I 17) (vw 12 I 70))) := rfl
    have hpp : ∀ (Y : MI), Y 202 = I 202 → Y 203 = I 203 → ∀ p, p < L → ∃ l, l ≤ 12 ∧ Y 203 p = nI l ∧ Pth (vw 2 I (134 + 2 * p)) (fun j => Y 202 (12 * p + j)) l := fun Y y2 y3 p hp => by
      rw [y2, y3]
      exact s5 p hp
    have wr : ∀ k, k < 4 → WkEq (wks I 31 k) (wks I 31 k) := fun k _ => WkEq.refl _
    have ind := fun (X : MemV) (r' : Nat) (hr : r' < 37) => run_ind (R := fun p => vw 2 I (134 + 2 * p)) (L := L) i' c (by omega) vc X (fun _ _ => 0) h.1.2 hr s2 I r hv s3 s8.1 s8.2 (hpp I rfl rfl)
    have b14 : ∀ X r', r' < 37 → vst (gV_X1_keepMountsAlone (gV_X1_copyFrom (vw 12 I 17) (vw 12 I 70))) X r' 0 14 = gV_X1_keepMountsAlone (gV_X1_copyFrom (vw 12 I 17) (vw 12 I 70)) 0 14 := fun X r' hr => (vst_ok (r := r') i' c vc X hr).2.2.2
    have b14' : ∀ X r', vst (gV_X1_keepMountsAlone (gV_X1_copyFrom (vw 12 I 17) (vw 12 I 70))) X r' 0 14 = gV_X1_keepMountsAlone (gV_X1_copyFrom (vw 12 I 17) (vw 12 I 70)) 0 14 := fun X r' => by
      have := b14 X 0 (by decide)
      have e : ∀ r', vst (gV_X1_keepMountsAlone (gV_X1_copyFrom (vw 12 I 17) (vw 12 I 70))) X r' 0 14 = gV_X1_copyFrom (gV_X1_keepMountsAlone (gV_X1_copyFrom (vw 12 I 17) (vw 12 I 70))) X 0 14 := fun r' => lm_0 _ _ (by decide)
      rw [e] at this ⊢
      exact this
    have lay := fun (Y : MI) (X : MemV) (r' : Nat) (hr : r' < 37) (y94 : ∀ k, k < 1853 → Y 194 k = I 194 k) (y2 : Y 202 = I 202) (y3 : Y 203 = I 203) (yk : ∀ j, j ≠ 22 → Y 188 j = I 188 j) => w_laysLoads (R := fun p => vw 2 I (134 + 2 * p)) (L := L) i' c (by omega) vc X h.1.2 hr s2 Y (r.cg i.N.n60 (UEq.refl _) (VEq.refl _) (fun _ _ => rfl) wr y94) (by rw [yk 11 (by decide)]; exact hv) (by rw [yk 36 (by decide)]; exact s3) (by rw [yk 20 (by decide)]; exact s8.1) (by rw [yk 21 (by decide)]; exact s8.2) (hpp Y y2 y3)
    generalize hB : gV_X1_keepMountsAlone (gV_X1_copyFrom (vw 12 I 17) (vw 12 I 70)) = B at Bz prepE ind b14 b14' lay
    have v13 : ∀ X r', r' < 37 → vst B X r' 0 13 = B 0 13 := fun X r' hr => by
      have := (vst_ok (r := r') i' c vc X hr).2.2.1
      rw [hB] at this
      exact this
    refine ⟨fun r' p => runV (vw 6 I 1) (fun p => vw 2 I (134 + 2 * p)) p (vst B (fun _ _ => 0) r') 0 13, ?_, fun r' hr => ?_, fun Y y94 y2 y3 yk r' hr => ?_⟩
    · exact all_q (R := fun p => vw 2 I (134 + 2 * p)) s2 (fun p _ => rfl) rfl hB _ (fun X r' p hr hp => ind X r' hr p hp) b14' Bz z30 (fun p hp => by
        obtain ⟨l, l1, _, l3⟩ := s5 p hp
        have e : vw 2 I (134 + 2 * p) 0 1 = nI l := l3.1
        show ix (vw 2 I (134 + 2 * p) 0 1) ≤ 12
        rw [e, ix_nI (by omega)]
        exact l1)
    · have po : ∀ x, (x < 70 ∨ 82 ≤ x) → pt I 70 B x = I x := fun x a => pt_out (by omega)
      obtain ⟨X, g1, g2, g3, g4⟩ := rI_q (I := pt I 70 B) (U := vw 6 I 1) (R := fun p => vw 2 I (134 + 2 * p)) (B := B) (r := r') (L := L) hr s2 (fun p hp => vw_fr (fun x _ _ => po x (by omega))) (vw_fr (fun x _ _ => po x (by omega))) (vw_pt _ _ _)
      rw [prepE]
      refine ⟨?_, fun x hx => by rw [g4 x (by omega) (by omega) (by omega), po x (by omega)]⟩
      rw [g3, if_pos rfl, ind X r' hr L (Nat.le_refl _), v13 X r' hr]
      show _ = _ - vst B (fun _ _ => 0) r' 0 13
      rw [v13 _ r' hr]
    · obtain ⟨Y', a1, a2, a3, a4, a5⟩ := lay Y (fun _ _ => 0) r' hr y94 y2 y3 yk
      refine ⟨Y', ?_, a2, a3, a4, a5⟩
      rw [a1]
      show _ = some (some (mI (_ - vst B (fun _ _ => 0) r' 0 13)), _)
      rw [v13 _ r' hr]
  · refine Or.inl ?_
    have := u.2.2.2.1.1
    rw [s1] at this
    exact (nI_eq (by omega) (by omega)).mp (this.trans nI_0.symm)
/-- what stays where the reference lays out loads -/
def KeY (Y Y' : MI) : Prop := (∀ x, x ≠ 188 → x ≠ 193 → x ≠ 194 → x ≠ 195 → x ≠ 196 → x ≠ 200 → x ≠ 206 → x ≠ 207 → Y' x = Y x) ∧ (∀ j, j ≠ 22 → Y' 188 j = Y 188 j) ∧ ∀ k, k < 1853 → Y' 194 k = Y 194 k
theorem KeY.refl (Y : MI) : KeY Y Y := ⟨fun _ _ _ _ _ _ _ _ _ => rfl, fun _ _ => rfl, fun _ _ => rfl⟩
theorem KeY.trans {A B C : MI} (h : KeY A B) (g : KeY B C) : KeY A C := ⟨fun x a b c d e f k m => by rw [g.1 x a b c d e f k m, h.1 x a b c d e f k m], fun j hj => by rw [g.2.1 j hj, h.2.1 j hj], fun k hk => by rw [g.2.2 k hk, h.2.2 k hk]⟩
theorem St.key {I X Y : MI} {J : MJ} {T B0 : Nat} (h : St I J T B0) (h30 : T + 10001 ≤ 1000000000) (xo : ∀ x, (x < 70 ∨ 134 ≤ x) → X x = I x) (k : KeY X Y) : St Y J (T + 10001) B0 := by
  refine h.qq h30 (h.2.1.fr ?_ ?_ ?_ ?_) (h.2.2.2.1.fr ?_ ?_) (fun x w => ?_) (fun j w => ?_) (fun j hj => ?_)
  · rw [k.1 7 (by decide) (by decide) (by decide) (by decide) (by decide) (by decide) (by decide) (by decide), xo 7 (by decide)]
  · rw [k.1 8 (by decide) (by decide) (by decide) (by decide) (by decide) (by decide) (by decide) (by decide), xo 8 (by decide)]
  · rw [k.2.1 1 (by decide), xo 188 (by decide)]
  · rw [k.1 189 (by decide) (by decide) (by decide) (by decide) (by decide) (by decide) (by decide) (by decide), xo 189 (by decide)]
  · rw [k.1 186 (by decide) (by decide) (by decide) (by decide) (by decide) (by decide) (by decide) (by decide), xo 186 (by decide)]
  · rw [k.1 190 (by decide) (by decide) (by decide) (by decide) (by decide) (by decide) (by decide) (by decide), xo 190 (by decide)]
  · unfold OkC at w
    rw [k.1 x (by omega) (by omega) (by omega) (by omega) (by omega) (by omega) (by omega) (by omega), xo x (by omega)]
  · unfold OkK at w
    rw [k.2.1 j (by omega), xo 188 (by decide)]
  · rw [k.2.2 j hj, xo 194 (by decide)]
theorem RLo.go {I : MI} {J : MJ} {L : Nat} {val : Nat → Nat → Int32} (rl : RLo I J L val) {X Y : MI} (xo : ∀ x, (x < 70 ∨ 134 ≤ x) → X x = I x) (k : KeY X Y) {r : Nat} (hr : r < 37) : ∃ Y', M_X10_laysLoads [mR (some 188), mI (nI (4 + r))] (Y, J) = some (some (mI (val r L - val r 0)), (Y', J)) ∧ KeY X Y' ∧ Y' 207 = Y 207 ∧ ∀ j, j < 492 → Y' 206 j = if 12 * (4 + r) ≤ j ∧ j < 12 * (4 + r) + L then val r (j - 12 * (4 + r) + 1) - val r (j - 12 * (4 + r)) else Y 206 j := by
  obtain ⟨Y', a1, a2, a3, a4, a5⟩ := rl Y (fun j hj => by rw [k.2.2 j hj, xo 194 (by decide)]) (by rw [k.1 202 (by decide) (by decide) (by decide) (by decide) (by decide) (by decide) (by decide) (by decide), xo 202 (by decide)]) (by rw [k.1 203 (by decide) (by decide) (by decide) (by decide) (by decide) (by decide) (by decide) (by decide), xo 203 (by decide)]) (fun j hj => by rw [k.2.1 j hj, xo 188 (by decide)]) r hr
  exact ⟨Y', a1, k.trans ⟨fun x b c d e f g m _ => a2 x b c d e f g m, a3, a4⟩, a2 207 (by decide) (by decide) (by decide) (by decide) (by decide) (by decide) (by decide), a5⟩
theorem in440 {x : Int32} (a : ¬ x < 4) (b : ¬ (40 : Int32) < x) : ∃ r, r < 37 ∧ x = nI (4 + r) := by
  have x0 : ¬ x < 0 := fun z => a (Int32.lt_trans z (by decide))
  obtain ⟨j, j31, hj⟩ := nI_of x0
  subst hj
  have a1 : 4 ≤ j := by
    rcases Nat.lt_or_ge j 4 with z | z
    · exact absurd (nI_lt (b := 4) z (by decide)) a
    · exact z
  have a2 : j ≤ 40 := by
    rcases Nat.lt_or_ge 40 j with z | z
    · exact absurd (nI_lt (a := 40) z j31) b
    · exact z
  exact ⟨j - 4, by omega, by rw [show 4 + (j - 4) = j by omega]⟩
theorem P_loads {I : MI} {J : MJ} {T B0 : Nat} (h : St I J T B0) (h30 : T + 10001 ≤ 1000000000) (x : Int32) : Pair I J T B0 (M_X9_loads [mR (some 0), mI x]) (M_X10_loads [mR (some 188), mI x]) := by
  obtain ⟨L, L12, l1, l2, _, alt⟩ := trc_pre h h30
  have rl := h.1.2
  have isn := fun s => w_isIn x 4 40 s (show (4 : Int64) = Int32.toInt64 4 from rfl) (show (40 : Int64) = Int32.toInt64 40 from rfl)
  by_cases L0 : L = 0
  · have z : I 69 1 ≤ 0 := by rw [l1, L0]; exact Int32.le_refl _
    refine Pair.ask h h30 (u_loads_no h.1.1 I x (Or.inr (Or.inr z))) (w := -1) ?_ rfl
    rw [E_X10_loads]
    simp only [rl.fi, l2, L0, Option.bind_some, show nI 0 = 0 from rfl, if_pos (Int32.le_refl (0 : Int32))]
  · have lp : ¬ nI L ≤ 0 := nI_nle (by omega) (by omega)
    by_cases a : x < 4
    · refine Pair.ask h h30 (u_loads_no h.1.1 I x (Or.inl a)) (w := -1) ?_ rfl
      rw [E_X10_loads]
      simp only [rl.fi, l2, Option.bind_some, if_neg lp, isn, asI_I, if_pos a, if_true]
    by_cases b : (40 : Int32) < x
    · refine Pair.ask h h30 (u_loads_no h.1.1 I x (Or.inr (Or.inl b))) (w := -1) ?_ rfl
      rw [E_X10_loads]
      simp only [rl.fi, l2, Option.bind_some, if_neg lp, isn, asI_I, if_neg a, if_pos b, if_true]
    obtain ⟨val, _, one, lo⟩ := alt.resolve_left L0
    obtain ⟨r, hr, hx⟩ := in440 a b
    subst hx
    have uE := u_loads h.1.1 I hr l1 L12 L0
    obtain ⟨o1, o2⟩ := one r hr
    rw [o1] at uE
    obtain ⟨Y', a1, a2, _⟩ := lo.go (X := rI (prep I 69 17) 69 1 r L) (Y := rI (prep I 69 17) 69 1 r L) o2 (KeY.refl _) hr
    refine ⟨_, _, Y', J, uE, ?_, h.key h30 o2 a2⟩
    rw [E_X10_loads]
    simp only [rl.fi, o2 188 (by decide), l2, Option.bind_some, if_neg lp, isn, asI_I, if_neg a, if_neg b, if_neg i10, rl.kt, if_true, a1]
theorem all_out (I : MI) (L : Nat) : ∀ x, (x < 70 ∨ 134 ≤ x) → allI I L x = I x := fun x hx => allI_out I L x (by omega) (by omega)
theorem least_loop {I X : MI} {J : MJ} {L : Nat} {val : Nat → Nat → Int32} (rl : RefL J) (lo : RLo I J L val) (xo : ∀ x, (x < 70 ∨ 134 ≤ x) → X x = I x) (l2 : I 188 36 = nI L) (L0 : L ≠ 0) (L12 : L ≤ 12) (x : Int32) : ∀ (n r : Nat) (Y : MI), r + n = 37 → KeY X Y → ∃ Y', Ev T_X10_least 2 [some (mR (some 188)), some (mI x), some (mI (nI (4 + r)))] [] (Y, J) = some (some (mI (match fst? (fun k => decide (¬ x < val k L - val k 0)) r n with
    | some k => nI (4 + k)
    | none => -1)), (Y', J)) ∧ KeY X Y' := by
  have lp : ¬ nI L ≤ 0 := nI_nle (by omega) (by omega)
  intro n
  induction n with
  | zero =>
    intro r Y hr k
    refine ⟨Y, ?_, k⟩
    rw [E_X10_least_2, if_pos (show (40 : Int32) < nI (4 + r) from nI_lt (a := 40) (by omega) (by omega))]
    rfl
  | succ n ih =>
    intro r Y hr k
    obtain ⟨Y1, a1, a2, _⟩ := lo.go xo k (show r < 37 by omega)
    have y36 : Y 188 36 = nI L := by rw [k.2.1 36 (by decide), xo 188 (by decide)]; exact l2
    have e : fst? (fun k => decide (¬ x < val k L - val k 0)) r (n + 1) = if decide (¬ x < val r L - val r 0) = true then some r else fst? (fun k => decide (¬ x < val k L - val k 0)) (r + 1) n := rfl
    rw [e, E_X10_least_2, if_neg (show ¬ (40 : Int32) < nI (4 + r) from nI_nlt (a := 40) (by omega) (by omega))]
    simp only [rl.fi, y36, Option.bind_some, if_neg lp, rl.kt, if_true, a1, asI_I, nI_1]
    by_cases c : x < val r L - val r 0
    · rw [if_pos c, if_neg (by simp [c])]
      exact ih (r + 1) Y1 (by omega) a2
    · rw [if_neg c, if_pos (by simp [c])]
      exact ⟨Y1, rfl, a2⟩
theorem P_least {I : MI} {J : MJ} {T B0 : Nat} (h : St I J T B0) (h30 : T + 10001 ≤ 1000000000) (x : Int32) : Pair I J T B0 (M_X9_least [mR (some 0), mI x]) (M_X10_least [mR (some 188), mI x]) := by
  obtain ⟨L, L12, l1, l2, _, alt⟩ := trc_pre h h30
  have rl := h.1.2
  have uE := u_least h.1.1 I x l1 L12
  by_cases L0 : L = 0
  · rw [if_pos L0] at uE
    refine Pair.ask h h30 uE (w := -1) ?_ rfl
    rw [E_X10_least, E_X10_least_2, if_neg (show ¬ (40 : Int32) < 4 by decide)]
    simp only [rl.fi, l2, L0, Option.bind_some, show nI 0 = 0 from rfl, if_pos (Int32.le_refl (0 : Int32))]
  · rw [if_neg L0] at uE
    obtain ⟨val, tab, _, lo⟩ := alt.resolve_left L0
    obtain ⟨Y', a1, a2⟩ := least_loop rl lo (all_out I L) l2 L0 L12 x 37 0 (allI I L) (by omega) (KeY.refl _)
    refine ⟨_, _, Y', J, uE, ?_, h.key h30 (all_out I L) a2⟩
    rw [E_X10_least]
    have e4 : (4 : Int32) = nI (4 + 0) := rfl
    rw [e4, a1]
    have ee : f_leastRoom (allI I L) 69 x = fst? (fun k => decide (¬ x < val k L - val k 0)) 0 37 := fst_cong (fun k _ hk => by
      have : allI I L (69 + 64) k = val k L - val k 0 := (tab k (by omega)).2
      rw [this])
    unfold q_X6_leastRoom
    rw [ee]
    generalize fst? (fun k => decide (¬ x < val k L - val k 0)) 0 37 = o
    cases o <;> rfl

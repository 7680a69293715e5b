/-! The paths of a trace by all rooms, on both sides. -/
theorem w_laysLoads {U : NodV} {V Vc : MemV} {H : OneV} {W : WkV} {n vol t T L r : Nat} (i : Inv U V H W n vol t T (fun _ => 0)) (C : CntI V) (tT : t + 300 ≤ T) (vc : VEq Vc V) (X : MemV) {J : MJ} (h : RefL J) (hr : r < 37) (L12 : L ≤ 12) {R : Nat → RouV} (Y : MI) (rr : Rel none U V H W (Y 194) n) (y11 : Y 188 11 = nI vol) (y36 : Y 188 36 = nI L) (y20 : Y 188 20 = -1) (y21 : Y 188 21 = -1) (hp : ∀ p, p < L → ∃ l, l ≤ 12 ∧ Y 203 p = nI l ∧ Pth (R p) (fun j => Y 202 (12 * p + j)) l) : ∃ Y', M_X10_laysLoads [mR (some 188), mI (nI (4 + r))] (Y, J) = some (some (mI (runV U R L (vst (gV_X1_keepMountsAlone Vc) X r) 0 13 - gV_X1_keepMountsAlone Vc 0 13)), (Y', J)) ∧ (∀ x, x ≠ 188 → x ≠ 193 → x ≠ 194 → x ≠ 195 → x ≠ 196 → x ≠ 200 → x ≠ 206 → Y' x = Y x) ∧ (∀ j, j ≠ 22 → Y' 188 j = Y 188 j) ∧ (∀ k, k < 1853 → Y' 194 k = Y 194 k) ∧ ∀ j, j < 492 → Y' 206 j = if 12 * (4 + r) ≤ j ∧ j < 12 * (4 + r) + L then runV U R (j - 12 * (4 + r) + 1) (vst (gV_X1_keepMountsAlone Vc) X r) 0 13 - runV U R (j - 12 * (4 + r)) (vst (gV_X1_keepMountsAlone Vc) X r) 0 13 else Y 206 j := by
  have wr : ∀ k, k < 4 → WkEq (W k) (W k) := fun k _ => WkEq.refl _
  have ic := i.cg (UEq.refl _) vc (fun _ _ => rfl) wr
  have pa := w_putsAside h Y
  have ao : ∀ x, x ≠ 196 → itr (rcp 194 196) 0 1853 Y x = Y x := fun x a => rcp_o 1853 0 Y a
  have a6 : ∀ j, j < 1853 → itr (rcp 194 196) 0 1853 Y 196 j = Y 194 j := fun j hj => by rw [rcp_at (by decide) 1853 0 Y j, if_pos (by omega)]
  generalize itr (rcp 194 196) 0 1853 Y = Y1 at pa ao a6
  have y94 : Y1 194 = Y 194 := ao 194 (by decide)
  have rc := rr.cg i.N.n60 (UEq.refl _) vc (fun _ _ => rfl) wr (fun _ _ => rfl)
  obtain ⟨A', D', c1, c2, c3, c4, c5, c6⟩ := w_clears i.N ic.M h Y1 (by rw [y94]; exact rc) (by rw [ao 188 (by decide)]; exact y11) (nI (4 + r))
  obtain ⟨⟨i0, C0⟩, rel, b13, _⟩ := vst_ok (r := r) i C vc X hr
  have r0 := rel (D' := D') rr (fun e he => by
    rw [c2 e he]
    by_cases e64 : e < 64
    · rw [(vc.2.1 e e64).1]
    · rw [if_neg (fun q => e64 q.1), if_neg (fun q => e64 q.1)]) c3 c4 c5 (fun j q1 q2 q3 q4 => by rw [c6 j q1 q2 q3 q4, y94])
  generalize vst (gV_X1_keepMountsAlone Vc) X r = V0 at i0 C0 r0 b13
  have co : ∀ x, x ≠ 194 → x ≠ 196 → x ≠ 200 → cf Y1 A' D' x = Y x := fun x a b c => by rw [cf_o _ _ _ a c, ao x b]
  have c94 : cf Y1 A' D' 194 = D' := cf_D _ _ _
  have c96 : cf Y1 A' D' 196 = Y1 196 := cf_o _ _ _ (by decide) (by decide)
  generalize cf Y1 A' D' = Y2 at c1 co c94 c96
  obtain ⟨Y3, d1, d2, d3, d4⟩ := loads_loop (U := U) (n := n) (vol := vol) (T := T) h hr L12 (R := R) V0 L 0 Y2 t 0 (by omega) (fun p hp' => by
    obtain ⟨l, b1, b2, b3⟩ := hp p hp'
    exact ⟨l, b1, by rw [co 203 (by decide) (by decide) (by decide)]; exact b2, by rw [co 202 (by decide) (by decide) (by decide)]; exact b3⟩) (by rw [co 188 (by decide) (by decide) (by decide)]; exact y36) (by rw [co 188 (by decide) (by decide) (by decide)]; exact y20) (by rw [co 188 (by decide) (by decide) (by decide)]; exact y21) (by rw [c94]; exact r0) i0 C0 (by omega)
  have tb := w_takesBack h Y3
  have bo : ∀ x, x ≠ 194 → itr (rcp 196 194) 0 1853 Y3 x = Y3 x := fun x a => rcp_o 1853 0 _ a
  have b4 : ∀ j, j < 1853 → itr (rcp 196 194) 0 1853 Y3 194 j = Y 194 j := fun j hj => by
    rw [rcp_at (by decide) 1853 0 _ j, if_pos (by omega), d2 196 (by decide) (by decide) (by decide) (by decide) (by decide), c96, a6 j hj]
  generalize itr (rcp 196 194) 0 1853 Y3 = Y4 at tb bo b4
  refine ⟨Y4, ?_, fun x p1 p2 p3 p4 p5 p6 p7 => ?_, fun j hj => ?_, b4, fun j hj => ?_⟩
  · rw [E_X10_laysLoads]
    simp only [h.kt, if_true, pa, Option.bind_some, asV_n, c1]
    rw [show (nI 0) = 0 from rfl] at d1
    rw [d1, E_X10_laysLoads_13]
    have y36' : Y3 188 36 = nI L := by rw [d3 36 (by decide), co 188 (by decide) (by decide) (by decide)]; exact y36
    simp only [h.fi, y36', Option.bind_some, if_pos (Int32.le_refl (nI L)), h.kt, if_true, tb, asV_n]
    rw [Int32.zero_add, show runV U R 0 V0 = V0 from rfl, b13]
  · rw [bo x p3, d2 x p1 p2 p3 p4 p7, co x p3 p5 p6]
  · rw [bo 188 (by decide), d3 j hj, co 188 (by decide) (by decide) (by decide)]
  · rw [bo 206 (by decide), d4 j hj, Nat.add_zero, co 206 (by decide) (by decide) (by decide)]
/-- what a run loads doesn't hang on what lay there before -/
theorem run_ind {U : NodV} {V Vc : MemV} {H : OneV} {W : WkV} {n vol t T L r : Nat} (i : Inv U V H W n vol t T (fun _ => 0)) (C : CntI V) (tT : t + 300 ≤ T) (vc : VEq Vc V) (X X' : MemV) {J : MJ} (h : RefL J) (hr : r < 37) (L12 : L ≤ 12) {R : Nat → RouV} (Y : MI) (rr : Rel none U V H W (Y 194) n) (y11 : Y 188 11 = nI vol) (y36 : Y 188 36 = nI L) (y20 : Y 188 20 = -1) (y21 : Y 188 21 = -1) (hp : ∀ p, p < L → ∃ l, l ≤ 12 ∧ Y 203 p = nI l ∧ Pth (R p) (fun j => Y 202 (12 * p + j)) l) : ∀ p, p ≤ L → runV U R p (vst (gV_X1_keepMountsAlone Vc) X r) 0 13 = runV U R p (vst (gV_X1_keepMountsAlone Vc) X' r) 0 13 := by
  obtain ⟨Y1, a1, _, _, _, a5⟩ := w_laysLoads i C tT vc X h hr L12 Y rr y11 y36 y20 y21 hp
  obtain ⟨Y2, b1, _, _, _, b5⟩ := w_laysLoads i C tT vc X' h hr L12 Y rr y11 y36 y20 y21 hp
  have e : Y1 = Y2 := by
    have := a1.symm.trans b1
    simp only [Option.some.injEq, Prod.mk.injEq] at this
    exact this.2.1
  subst e
  intro p
  induction p with
  | zero =>
    intro _
    show vst (gV_X1_keepMountsAlone Vc) X r 0 13 = vst (gV_X1_keepMountsAlone Vc) X' r 0 13
    rw [(vst_ok (r := r) i C vc X hr).2.2.1, (vst_ok (r := r) i C vc X' hr).2.2.1]
  | succ p ih =>
    intro hp'
    have q1 := a5 (12 * (4 + r) + p) (by omega)
    have q2 := b5 (12 * (4 + r) + p) (by omega)
    rw [if_pos (by omega), show 12 * (4 + r) + p - 12 * (4 + r) = p by omega] at q1 q2
    have q3 := q1.symm.trans q2
    rw [ih (by omega)] at q3
    have := congrArg (fun y => y + runV U R p (vst (gV_X1_keepMountsAlone Vc) X' r) 0 13) q3
    simpa only [Int32.sub_add_cancel] using this
/-! The class's table. -/
theorem rstep_e (r p : Nat) (I : MI) : rstep 69 1 r p I = up2 (pt I 82 (gV_X1_walk 12 (vw 2 I (134 + 2 * p)) (vw 6 I 1) (vw 12 I 82) (I (134 + 2 * p) 1))) (96 + r) p (gV_X1_walk 12 (vw 2 I (134 + 2 * p)) (vw 6 I 1) (vw 12 I 82) (I (134 + 2 * p) 1) 0 13 - I 82 13) := rfl
theorem rrun_loop {U : NodV} {R : Nat → RouV} {r : Nat} (hr : r < 37) (V0 : MemV) : ∀ (n k : Nat) (I' : MI), k + n ≤ 12 → (∀ p, p < 12 → vw 2 I' (134 + 2 * p) = R p) → vw 6 I' 1 = U → vw 12 I' 82 = runV U R k V0 → vw 12 (itr (fun p I => rstep 69 1 r p I) k n I') 82 = runV U R (k + n) V0 ∧ (∀ j, itr (fun p I => rstep 69 1 r p I) k n I' (96 + r) j = if k ≤ j ∧ j < k + n then runV U R (j + 1) V0 0 13 - runV U R j V0 0 13 else I' (96 + r) j) ∧ ∀ x, (x < 82 ∨ 94 ≤ x) → x ≠ 96 + r → itr (fun p I => rstep 69 1 r p I) k n I' x = I' x
  | 0, k, I', _, _, _, hV => ⟨by rw [Nat.add_zero]; exact hV, fun j => by rw [if_neg (by omega)]; rfl, fun x _ _ => rfl⟩
  | n + 1, k, I', hk, hR, hU, hV => by
    have e : itr (fun p I => rstep 69 1 r p I) k (n + 1) I' = itr (fun p I => rstep 69 1 r p I) (k + 1) n (rstep 69 1 r k I') := rfl
    have rk : I' (134 + 2 * k) 1 = R k 0 1 := by rw [← hR k (by omega)]; rfl
    have se : rstep 69 1 r k I' = up2 (pt I' 82 (runV U R (k + 1) V0)) (96 + r) k (runV U R (k + 1) V0 0 13 - runV U R k V0 0 13) := by
      rw [rstep_e, hR k (by omega), hU, hV, rk]
      have : I' 82 13 = runV U R k V0 0 13 := by rw [← hV]; rfl
      rw [this]
      rfl
    have o : ∀ x, (x < 82 ∨ 94 ≤ x) → x ≠ 96 + r → rstep 69 1 r k I' x = I' x := fun x a b => by rw [se, up2_o _ _ _ b, pt_out (by omega)]
    have w82 : vw 12 (rstep 69 1 r k I') 82 = runV U R (k + 1) V0 := by
      rw [se, vw_up2 _ _ _ _ _ (by omega), vw_pt]
    obtain ⟨g1, g2, g3⟩ := rrun_loop hr V0 n (k + 1) (rstep 69 1 r k I') (by omega) (fun p hp => by rw [vw_fr (I := I') (fun x _ _ => o x (by omega) (by omega))]; exact hR p hp) (by rw [vw_fr (I := I') (fun x _ _ => o x (by omega) (by omega))]; exact hU) w82
    refine ⟨by rw [e, g1, show k + 1 + n = k + (n + 1) by omega], fun j => ?_, fun x a b => by rw [e, g3 x a b, o x a b]⟩
    rw [e, g2 j, se, up2_r, pt_out (by omega)]
    by_cases z : j = k
    · rw [if_neg (by omega), if_pos z, if_pos (by omega), z]
    · rw [if_neg z]
      by_cases w : k + 1 ≤ j ∧ j < k + 1 + n
      · rw [if_pos w, if_pos (by omega)]
      · rw [if_neg w, if_neg (by omega)]
theorem rI_q {I : MI} {U : NodV} {R : Nat → RouV} {B : MemV} {r L : Nat} (hr : r < 37) (L12 : L ≤ 12) (hR : ∀ p, p < 12 → vw 2 I (134 + 2 * p) = R p) (hU : vw 6 I 1 = U) (hB : vw 12 I 70 = B) : ∃ X, vw 12 (rI I 69 1 r L) 82 = runV U R L (vst B X r) ∧ (∀ j, rI I 69 1 r L (96 + r) j = if j < L then runV U R (j + 1) (vst B X r) 0 13 - runV U R j (vst B X r) 0 13 else I (96 + r) j) ∧ (∀ j, rI I 69 1 r L 133 j = if j = r then runV U R L (vst B X r) 0 13 - vst B X r 0 13 else I 133 j) ∧ ∀ x, (x < 82 ∨ 94 ≤ x) → x ≠ 96 + r → x ≠ 133 → rI I 69 1 r L x = I x := by
  refine ⟨vw 12 I 82, ?_⟩
  have e0 : rrun I 69 1 r L = itr (fun p I => rstep 69 1 r p I) 0 L (pt I 82 (vst (vw 12 I 70) (vw 12 I 82) r)) := rfl
  rw [hB] at e0
  have po : ∀ x, (x < 82 ∨ 94 ≤ x) → pt I 82 (vst B (vw 12 I 82) r) x = I x := fun x a => pt_out (by omega)
  obtain ⟨g1, g2, g3⟩ := rrun_loop (U := U) (R := R) hr (vst B (vw 12 I 82) r) L 0 (pt I 82 (vst B (vw 12 I 82) r)) (by omega) (fun p hp => by rw [vw_fr (I := I) (fun x _ _ => po x (by omega))]; exact hR p hp) (by rw [vw_fr (I := I) (fun x _ _ => po x (by omega))]; exact hU) (vw_pt _ _ _)
  rw [← e0] at g1 g2 g3
  rw [Nat.zero_add] at g1
  have e1 : rI I 69 1 r L = up2 (rrun I 69 1 r L) 133 r (rrun I 69 1 r L 82 13 - gV_X1_copyFrom (vw 12 I 70) (vw 12 I 82) 0 13) := rfl
  have c13 : gV_X1_copyFrom (vw 12 I 70) (vw 12 I 82) 0 13 = vst B (vw 12 I 82) r 0 13 := by
    rw [hB]
    exact (lm_0 _ _ (by decide)).symm
  have r13 : rrun I 69 1 r L 82 13 = runV U R L (vst B (vw 12 I 82) r) 0 13 := by rw [← g1]; rfl
  rw [c13, r13] at e1
  refine ⟨by rw [e1, vw_up2 _ _ _ _ _ (by omega)]; exact g1, fun j => ?_, fun j => ?_, fun x a b c => ?_⟩
  · rw [e1, up2_o _ _ _ (by omega), g2 j, po _ (by omega)]
    by_cases w : j < L
    · rw [if_pos (by omega), if_pos w]
    · rw [if_neg (by omega), if_neg w]
  · rw [e1, up2_r, g3 133 (by omega) (by omega), po _ (by omega)]
  · rw [e1, up2_o _ _ _ c, g3 x a b, po x a]
/-- the table of all rooms -/
theorem all_q {I : MI} {U : NodV} {R : Nat → RouV} {B : MemV} {L z : Nat} (L12 : L ≤ 12) (hR : ∀ p, p < 12 → vw 2 I (134 + 2 * p) = R p) (hU : vw 6 I 1 = U) (hB : gV_X1_keepMountsAlone (gV_X1_copyFrom (vw 12 I 17) (vw 12 I 70)) = B) (val : Nat → Nat → Int32) (hv : ∀ X r p, r < 37 → p ≤ L → runV U R p (vst B X r) 0 13 = val r p) (b14 : ∀ X r, vst B X r 0 14 = B 0 14) (hz : B 0 14 = nI z) (z30 : z ≤ 1000000000) (hl : ∀ p, p < L → ix (R p 0 1) ≤ 12) : ∀ r, r < 37 → (∀ p, p < L → allI I L (96 + r) p = val r (p + 1) - val r p) ∧ allI I L 133 r = val r L - val r 0 := by
  have e0 : allI I L = (itr (fun r s => astep 69 1 L r s) 0 37 (1, pt I 70 B)).2 := by
    rw [← hB]
    rfl
  have v0 : ∀ X r, r < 37 → vst B X r 0 13 = val r 0 := fun X r hr => hv X r 0 hr (Nat.zero_le _)
  have main : ∀ (n r : Nat) (s : Int32 × MI), r + n = 37 → (∀ p, p < 12 → vw 2 s.2 (134 + 2 * p) = R p) → vw 6 s.2 1 = U → vw 12 s.2 70 = B → (∀ r', r' < r → (∀ p, p < L → s.2 (96 + r') p = val r' (p + 1) - val r' p) ∧ s.2 133 r' = val r' L - val r' 0) → (s.1 = 0 → r = 0 ∨ ∃ r0, r0 < r ∧ ∀ r', r0 ≤ r' → r' < 37 → ∀ p, p ≤ L → val r' p = val r0 p) → ∀ r', r' < 37 → (∀ p, p < L → (itr (fun r s => astep 69 1 L r s) r n s).2 (96 + r') p = val r' (p + 1) - val r' p) ∧ (itr (fun r s => astep 69 1 L r s) r n s).2 133 r' = val r' L - val r' 0 := by
    intro n
    induction n with
    | zero =>
      intro r s hr _ _ _ ok _ r' hr'
      exact ok r' (by omega)
    | succ n ih =>
      intro r s hr sR sU sB ok loo
      have e1 : itr (fun r s => astep 69 1 L r s) r (n + 1) s = itr (fun r s => astep 69 1 L r s) (r + 1) n (astep 69 1 L r s) := rfl
      rw [e1]
      by_cases c : s.1 = 0 ∧ r ≠ 0
      · have ea : astep 69 1 L r s = (s.1, ccp 69 r s.2) := by
          unfold astep
          rw [if_pos c]
        obtain ⟨r0, r0r, lo⟩ := (loo c.1).resolve_left c.2
        have ce : ∀ x j, ccp 69 r s.2 x j = if x = 133 ∧ j = r then s.2 133 (r - 1) else if x = 96 + r ∧ j < 12 then s.2 (96 + (r - 1)) j else s.2 x j := fun x j => rfl
        have co : ∀ x, x ≠ 133 → x ≠ 96 + r → ccp 69 r s.2 x = s.2 x := fun x a b => by
          funext j
          rw [ce, if_neg (fun q => a q.1), if_neg (fun q => b q.1)]
        rw [ea]
        refine ih (r + 1) (s.1, ccp 69 r s.2) (by omega) (fun p hp => by rw [vw_fr (I := s.2) (fun x _ _ => co x (by omega) (by omega))]; exact sR p hp) (by rw [vw_fr (I := s.2) (fun x _ _ => co x (by omega) (by omega))]; exact sU) (by rw [vw_fr (I := s.2) (fun x _ _ => co x (by omega) (by omega))]; exact sB) (fun r' hr' => ?_) (fun _ => Or.inr ⟨r0, by omega, lo⟩)
        show (∀ p, p < L → ccp 69 r s.2 (96 + r') p = _) ∧ ccp 69 r s.2 133 r' = _
        by_cases w : r' = r
        · subst w
          obtain ⟨o1, o2⟩ := ok (r' - 1) (by omega)
          have q : ∀ p, p ≤ L → val r' p = val (r' - 1) p := fun p hp => by rw [lo r' (by omega) (by omega) p hp, lo (r' - 1) (by omega) (by omega) p hp]
          refine ⟨fun p hp => ?_, ?_⟩
          · rw [ce, if_neg (by omega), if_pos ⟨rfl, by omega⟩, o1 p hp, q (p + 1) (by omega), q p (by omega)]
          · rw [ce, if_pos ⟨rfl, rfl⟩, o2, q L (Nat.le_refl _), q 0 (Nat.zero_le _)]
        · obtain ⟨o1, o2⟩ := ok r' (by omega)
          refine ⟨fun p hp => ?_, ?_⟩
          · rw [co _ (by omega) (by omega)]; exact o1 p hp
          · rw [ce, if_neg (fun q => w q.2), if_neg (by omega)]; exact o2
      · have ea : astep 69 1 L r s = (if rI s.2 69 1 r L 82 14 ≤ s.2 70 14 then 0 else 1, rI s.2 69 1 r L) := by
          unfold astep
          rw [if_neg c]
        obtain ⟨X, g1, g2, g3, g4⟩ := rI_q (U := U) (R := R) (B := B) (show r < 37 by omega) L12 sR sU sB
        rw [ea]
        refine ih (r + 1) _ (by omega) (fun p hp => by rw [vw_fr (I := s.2) (fun x _ _ => g4 x (by omega) (by omega) (by omega))]; exact sR p hp) (by rw [vw_fr (I := s.2) (fun x _ _ => g4 x (by omega) (by omega) (by omega))]; exact sU) (by rw [vw_fr (I := s.2) (fun x _ _ => g4 x (by omega) (by omega) (by omega))]; exact sB) (fun r' hr' => ?_) (fun q => ?_)
        · show (∀ p, p < L → rI s.2 69 1 r L (96 + r') p = _) ∧ rI s.2 69 1 r L 133 r' = _
          by_cases w : r' = r
          · subst w
            refine ⟨fun p hp => ?_, ?_⟩
            · rw [g2, if_pos hp, hv X r' (p + 1) (by omega) (by omega), hv X r' p (by omega) (by omega)]
            · rw [g3, if_pos rfl, hv X r' L (by omega) (Nat.le_refl _), v0 X r' (by omega)]
          · obtain ⟨o1, o2⟩ := ok r' (by omega)
            refine ⟨fun p hp => ?_, ?_⟩
            · rw [g4 _ (by omega) (by omega) (by omega)]; exact o1 p hp
            · rw [g3, if_neg w]; exact o2
        · have le : rI s.2 69 1 r L 82 14 ≤ s.2 70 14 := by
            by_cases y : rI s.2 69 1 r L 82 14 ≤ s.2 70 14
            · exact y
            · have q' : (if rI s.2 69 1 r L 82 14 ≤ s.2 70 14 then (0 : Int32) else 1) = 0 := q
              rw [if_neg y] at q'
              exact absurd q' i10
          have x82 : rI s.2 69 1 r L 82 14 = runV U R L (vst B X r) 0 14 := by rw [← g1]; rfl
          have x70 : s.2 70 14 = nI z := by rw [← hz, ← sB]; rfl
          refine Or.inr ⟨r, by omega, fun r' h1 h2 p hp => ?_⟩
          obtain ⟨m, m1, m2, _, m4⟩ := lm_run (U := U) (R := R) (V := vst B X r) (l := 4 + r) (l' := 4 + r') (lm_11 _ _) (by omega) (by omega) L hl
          rw [x82, x70, m2, b14, hz, nI_add] at le
          have m0 : m = 0 := by
            have := (nI_leI (by omega) (by omega)).mp le
            omega
          have ee : lm (vst B X r) (nI (4 + r')) = vst B X r' := by
            unfold vst lm
            funext k j
            simp only [uv]
            by_cases y : k = 0 ∧ j = 11
            · rw [if_pos y, if_pos y]
            · rw [if_neg y, if_neg y, if_neg y]
          have := m4 m0 p hp
          rw [ee] at this
          rw [← hv X r' p h2 hp, this, lm_0 _ _ (by decide), hv X r p (by omega) hp]
  have po : ∀ x, (x < 70 ∨ 82 ≤ x) → pt I 70 B x = I x := fun x a => pt_out (by omega)
  intro r hr
  rw [e0]
  exact main 37 0 (1, pt I 70 B) (by omega) (fun p hp => by rw [vw_fr (I := I) (fun x _ _ => po x (by omega))]; exact hR p hp) (by rw [vw_fr (I := I) (fun x _ _ => po x (by omega))]; exact hU) (vw_pt _ _ _) (fun r' h => by omega) (fun q => absurd (show (1 : Int32) = 0 from q) i10) r hr

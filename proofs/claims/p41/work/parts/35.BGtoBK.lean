section
/-! The paths of a trace by a room: the reference's side. -/
/-- the memory that a run begins with -/
def vst (B X : MemV) (r : Nat) : MemV := lm (gV_X1_copyFrom B X) (nI (4 + r))
theorem vst_ok {U : NodV} {V Vc : MemV} {H : OneV} {W : WkV} {n vol t T r : Nat} (i : Inv U V H W n vol t T (fun _ => 0)) (C : CntI V) (vc : VEq Vc V) (X : MemV) (hr : r < 37) : (Inv U (vst (gV_X1_keepMountsAlone Vc) X r) H00 W00 n vol t T (fun _ => 0) ∧ CntI (vst (gV_X1_keepMountsAlone Vc) X r)) ∧ (∀ {D D' : RowV}, Rel none U V H W D n → (∀ e, e < 128 → D' (701 + 9 * e + 0) = if e < 64 ∧ ¬ V 1 e = 0 ∧ kB Vc e = true then 1 else 0) → D' 3 = nI (4 + r) → (∀ k, k < 6 → D' (11 + k) = -1) → (∀ k, k < 4 → D' (17 + 96 * k + 0) = 0) → (∀ j, (∀ e, e < 128 → j ≠ 701 + 9 * e + 0) → j ≠ 3 → (j < 11 ∨ 17 ≤ j) → (∀ k, k < 4 → j ≠ 17 + 96 * k + 0) → D' j = D j) → Rel none U (vst (gV_X1_keepMountsAlone Vc) X r) H00 W00 D' n) ∧ vst (gV_X1_keepMountsAlone Vc) X r 0 13 = gV_X1_keepMountsAlone Vc 0 13 ∧ vst (gV_X1_keepMountsAlone Vc) X r 0 14 = gV_X1_keepMountsAlone Vc 0 14 := by
  have wr : ∀ k, k < 4 → WkEq (W k) (W k) := fun k _ => WkEq.refl _
  have ic := i.cg (UEq.refl _) vc (fun _ _ => rfl) wr
  have cc := C.cg vc
  obtain ⟨b1, b2, b3⟩ := bare_q Vc
  have cp := VEq.copy (gV_X1_keepMountsAlone Vc) X
  generalize gV_X1_keepMountsAlone Vc = B at b1 b2 b3 cp
  have ve : ∀ q : Fin 12, q ≠ 0 → vst B X r q = gV_X1_copyFrom B X q := fun q hq => lm_q _ _ hq
  have ve0 : ∀ j, j ≠ 11 → vst B X r 0 j = gV_X1_copyFrom B X 0 j := fun j hj => lm_0 _ _ hj
  have ve11 : vst B X r 0 11 = nI (4 + r) := lm_11 _ _
  generalize gV_X1_copyFrom B X = E at cp ve ve0
  generalize vst B X r = V' at ve ve0 ve11
  obtain ⟨c0, c1, c9⟩ := cp
  have z : ∀ j, j = 12 ∨ j = 13 ∨ j = 14 → V' 0 j = B 0 j := fun j hj => by
    rw [ve0 j (by omega)]
    rcases hj with q | q | q
    · rw [q]; exact c0.2.1
    · rw [q]; exact c0.2.2.1
    · rw [q]; exact c0.2.2.2
  have k0 : ∀ j, j = 12 ∨ j = 13 ∨ j = 14 → V' 0 j = Vc 0 j := fun j hj => by rw [z j hj, b1 0 (by decide) (by decide)]
  have r1 : ∀ j, j < 64 → V' 1 j = if kB Vc j = true then Vc 1 j else 0 := fun j hj => by rw [ve 1 (by decide), (c1 j hj).1, b2 j hj]
  have row : ∀ q : Fin 12, q = 2 ∨ q = 3 ∨ q = 4 ∨ q = 6 ∨ q = 7 ∨ q = 8 → ∀ j, j < 64 → V' q j = B q j := fun q hq j hj => by
    have cj := c1 j hj
    rcases hq with e | e | e | e | e | e <;> subst e <;> rw [ve _ (by decide)]
    · exact cj.2.1
    · exact cj.2.2.1
    · exact cj.2.2.2.1
    · exact cj.2.2.2.2.2.1
    · exact cj.2.2.2.2.2.2.1
    · exact cj.2.2.2.2.2.2.2
  have row' : ∀ q : Fin 12, q = 2 ∨ q = 3 ∨ q = 4 ∨ q = 6 ∨ q = 7 ∨ q = 8 → ∀ j, j < 64 → V' q j = Vc q j := fun q hq j hj => by
    rw [row q hq j hj]
    rcases hq with e | e | e | e | e | e <;> subst e <;> rw [b1 _ (by decide) (by decide)]
  have row9 : ∀ v, v < 3 → V' 9 v = B 9 v ∧ V' 10 v = B 10 v := fun v hv => by
    rw [ve 9 (by decide), ve 10 (by decide)]
    exact c9 v hv
  have row9' : ∀ v, v < 3 → V' 9 v = Vc 9 v ∧ V' 10 v = Vc 10 v := fun v hv => by
    rw [(row9 v hv).1, (row9 v hv).2, b1 9 (by decide) (by decide), b1 10 (by decide) (by decide)]
    exact ⟨rfl, rfl⟩
  have r5 : ∀ e, e < 64 → V' 5 e = nI (hcC V' e + hcV V' e) := fun e he => by
    rw [ve 5 (by decide), (c1 e he).2.2.2.2.1, b3 e he]
    have h1 : hcC V' e = hcC B e := cnt_cong (fun j _ hj => by rw [ve 1 (by decide), (c1 j (by omega)).1, row 2 (by decide) j (by omega)])
    have h2 : hcV V' e = hcV B e := cnt_cong (fun v _ hv => by rw [(row9 v (by omega)).2])
    rw [h1, h2]
  refine ⟨ic.bare cc (by omega) (by omega) k0 ve11 r1 r5 row' row9', fun {D D'} rr d0 d3 dh dw dk => ?_, z 13 (by decide), z 14 (by decide)⟩
  refine (rr.cg i.N.n60 (UEq.refl _) vc (fun _ _ => rfl) wr (fun _ _ => rfl)).bare i.N.n60 k0 ve11 r1 row' row9' (fun e he => ?_) d3 dh dw dk
  rw [d0 e he]
  by_cases e64 : e < 64
  · rw [(vc.2.1 e e64).1]
  · rw [if_neg (fun q => e64 q.1), if_neg (fun q => e64 q.1)]
theorem RefL.f41 {J : MJ} (h : RefL J) (I : MI) : fR (I, J) 10 188 41 = some (some 206) := by rw [fR_ok 41 h.k, h.r41]
/-- a path's steps are laid aside -/
theorem loads_cp {J : MJ} (h : RefL J) (Y : MI) {p l : Nat} (hp : p < 12) (l12 : l ≤ 12) (hl : Y 203 p = nI l) (x1 x2 : Int32) : ∃ S, Ev T_X10_laysLoads 24 [some (mR (some 188)), some (mI x1), some (mI x2), some (mI (nI p)), some (mI 0), none] [] (Y, J) = Ev T_X10_laysLoads 24 [some (mR (some 188)), some (mI x1), some (mI x2), some (mI (nI p)), some (mI (nI l)), none] [] (rw1 Y 193 S, J) ∧ ∀ j, j < l → S j = Y 202 (12 * p + j) := by
  have s1 := loop_all (fun k S => Ev T_X10_laysLoads 24 [some (mR (some 188)), some (mI x1), some (mI x2), some (mI (nI p)), some (mI (nI k)), none] [] (rw1 Y 193 S, J)) (fun k S => sD S (0 + k) (Y 202 (12 * p + k))) l (Y 193) (fun k S hk => by
    try dsimp only
    have e : (12 : Int32) * nI p + nI k = nI (12 * p + k) := by rw [show (12 : Int32) = nI 12 from rfl, nI_mul, nI_add]
    rw [E_X10_laysLoads_24]
    simp only [h.f35, h.f16, h.f34, Option.bind_some, ldx h.s35 hp (by decide) rfl, rw1_n Y S (show (203 : Nat) ≠ 193 by decide), rw1_n Y S (show (202 : Nat) ≠ 193 by decide), hl, if_neg (nI_ge hk (by omega)), ldx h.s34 (show 12 * p + k < 144 by omega) (by decide) e, stx h.s16 (show k < 64 by omega) (by decide) rfl, rw1_st, nI_1, Nat.zero_add])
  try dsimp only at s1
  rw [show (nI 0) = 0 from rfl, rw1_id] at s1
  refine ⟨_, s1, fun j hj => ?_⟩
  rw [itr_sD 0 (fun k => Y 202 (12 * p + k)), if_pos (by omega)]
  rfl
theorem loads_loop {U : NodV} {n vol T L r : Nat} {J : MJ} (h : RefL J) (hr : r < 37) (L12 : L ≤ 12) {R : Nat → RouV} (V0 : MemV) : ∀ (f k : Nat) (Y : MI) (t : Nat) (x2 : Int32), k + f = L → (∀ p, p < L → ∃ l, l ≤ 12 ∧ Y 203 p = nI l ∧ Pth (R p) (fun j => Y 202 (12 * p + j)) l) → Y 188 36 = nI L → Y 188 20 = -1 → Y 188 21 = -1 → Rel none U (runV U R k V0) H00 W00 (Y 194) n → Inv U (runV U R k V0) H00 W00 n vol t T (fun _ => 0) → CntI (runV U R k V0) → t + 25 * f ≤ T → ∃ Y', Ev T_X10_laysLoads 13 [some (mR (some 188)), some (mI (nI (4 + r))), some (mI x2), some (mI (nI k)), none, none] [] (Y, J) = Ev T_X10_laysLoads 13 [some (mR (some 188)), some (mI (nI (4 + r))), some (mI (x2 + (runV U R L V0 0 13 - runV U R k V0 0 13))), some (mI (nI L)), none, none] [] (Y', J) ∧ (∀ x, x ≠ 188 → x ≠ 193 → x ≠ 194 → x ≠ 195 → x ≠ 206 → Y' x = Y x) ∧ (∀ j, j ≠ 22 → Y' 188 j = Y 188 j) ∧ ∀ j, j < 492 → Y' 206 j = if 12 * (4 + r) + k ≤ j ∧ j < 12 * (4 + r) + L then runV U R (j - 12 * (4 + r) + 1) V0 0 13 - runV U R (j - 12 * (4 + r)) V0 0 13 else Y 206 j := by
  intro f
  induction f with
  | zero =>
    intro k Y t x2 hk _ _ _ _ _ _ _ _
    have : k = L := by omega
    subst this
    refine ⟨Y, ?_, fun _ _ _ _ _ _ => rfl, fun _ _ => rfl, fun j _ => by rw [if_neg (by omega)]⟩
    rw [Int32.sub_self, Int32.add_zero]
  | succ f ih =>
    intro k Y t x2 hk hp y36 y20 y21 rr i C tT
    obtain ⟨l, l12, hl, pth⟩ := hp k (by omega)
    obtain ⟨S, s1, s2⟩ := loads_cp h Y (show k < 12 by omega) l12 hl (nI (4 + r)) x2
    have q : ∀ x, x ≠ 193 → rw1 Y 193 S x = Y x := fun x a => rw1_n _ _ a
    have qS : rw1 Y 193 S 193 = S := rw1_s _ _ _
    generalize rw1 Y 193 S = Y1 at s1 q qS
    have x2l : ix (R k 0 1) = l := by rw [pth.1, ix_nI (by omega)]
    obtain ⟨D', G', c', how, t', w1, w2, w3, w4, w5⟩ := rr.walks i C (fun e _ z => absurd rfl z) h Y1 (by rw [q 188 (by decide), y20]; exact Or.inl ⟨rfl, fun _ => rfl⟩) (by rw [q 188 (by decide)]; exact y21) (Y1 195) (Y1 188 22) (s1 := 193) h.s16 (by decide) (P := R k) (lp := l) (m := l) (L := 12) pth.1 (Nat.le_refl _) l12 (by decide) (by omega) (fun j hj => by
      rw [qS, s2 j hj]
      exact pth.2 j hj) (R k 0 1) x2l (by omega)
    have y194 : Y1 194 = Y 194 := q 194 (by decide)
    rw [← y194, rF_id] at w1
    have fold : gV_X1_walk 12 (R k) U (runV U R k V0) (R k 0 1) = runV U R (k + 1) V0 := rfl
    rw [fold] at w2
    have eix : (12 : Int32) * nI (4 + r) + nI k = nI (12 * (4 + r) + k) := by rw [show (12 : Int32) = nI 12 from rfl, nI_mul, nI_add]
    have d1 : D' 1 = runV U R (k + 1) V0 0 13 := w2.1.B.lo
    have d0 : Y1 194 1 = runV U R k V0 0 13 := by rw [y194]; exact rr.B.lo
    have step : Ev T_X10_laysLoads 13 [some (mR (some 188)), some (mI (nI (4 + r))), some (mI x2), some (mI (nI k)), none, none] [] (Y, J) = Ev T_X10_laysLoads 13 [some (mR (some 188)), some (mI (nI (4 + r))), some (mI (x2 + (runV U R (k + 1) V0 0 13 - runV U R k V0 0 13))), some (mI (nI (k + 1))), none, none] [] (up2 (rF Y1 D' G' c') 206 (12 * (4 + r) + k) (runV U R (k + 1) V0 0 13 - runV U R k V0 0 13), J) := by
      rw [E_X10_laysLoads_13]
      simp only [h.fi, y36, Option.bind_some, if_neg (nI_ge (show k < L by omega) (by omega)), s1]
      rw [E_X10_laysLoads_24]
      have o94 : ∀ v, up2 (rF Y1 D' G' c') 206 (12 * (4 + r) + k) v 194 = D' := fun v => by rw [up2_o _ _ _ (by decide), rF_D]
      simp only [h.f35, h.f16, h.f18, h.f41, Option.bind_some, ldx h.s35 (show k < 12 by omega) (by decide) rfl, q 203 (by decide), hl, if_pos (Int32.le_refl (nI l)), h.ldD _ (show (1 : Int32) = nI 1 from rfl) (show 1 < 1853 by decide), d0, h.kt, if_true, w1, asI_I, rF_D, d1, stx h.s41 (show 12 * (4 + r) + k < 492 by omega) (by decide) eix, o94, nI_1]
    have z : ∀ x, x ≠ 188 → x ≠ 193 → x ≠ 194 → x ≠ 195 → x ≠ 206 → up2 (rF Y1 D' G' c') 206 (12 * (4 + r) + k) (runV U R (k + 1) V0 0 13 - runV U R k V0 0 13) x = Y x := fun x a b c d e => by rw [up2_o _ _ _ e, rF_o _ _ _ _ a c d, q x b]
    have zk : ∀ j, j ≠ 22 → up2 (rF Y1 D' G' c') 206 (12 * (4 + r) + k) (runV U R (k + 1) V0 0 13 - runV U R k V0 0 13) 188 j = Y 188 j := fun j hj => by rw [up2_o _ _ _ (by decide), rF_k _ _ _ _ hj, q 188 (by decide)]
    have z94 : up2 (rF Y1 D' G' c') 206 (12 * (4 + r) + k) (runV U R (k + 1) V0 0 13 - runV U R k V0 0 13) 194 = D' := by rw [up2_o _ _ _ (by decide), rF_D]
    have z06 : ∀ j, up2 (rF Y1 D' G' c') 206 (12 * (4 + r) + k) (runV U R (k + 1) V0 0 13 - runV U R k V0 0 13) 206 j = if j = 12 * (4 + r) + k then runV U R (k + 1) V0 0 13 - runV U R k V0 0 13 else Y 206 j := fun j => by rw [up2_r, rF_o _ _ _ _ (by decide) (by decide) (by decide), q 206 (by decide)]
    generalize up2 (rF Y1 D' G' c') 206 (12 * (4 + r) + k) (runV U R (k + 1) V0 0 13 - runV U R k V0 0 13) = Y2 at step z zk z94 z06
    obtain ⟨Y', a1, a2, a3, a4⟩ := ih (k + 1) Y2 t' (x2 + (runV U R (k + 1) V0 0 13 - runV U R k V0 0 13)) (by omega) (fun p hp' => by
      obtain ⟨l, b1, b2, b3⟩ := hp p hp'
      exact ⟨l, b1, by rw [z 203 (by decide) (by decide) (by decide) (by decide) (by decide)]; exact b2, by rw [z 202 (by decide) (by decide) (by decide) (by decide) (by decide)]; exact b3⟩) (by rw [zk 36 (by decide)]; exact y36) (by rw [zk 20 (by decide)]; exact y20) (by rw [zk 21 (by decide)]; exact y21) (by rw [z94]; exact w2.1) w2.2.1 w2.2.2.1 (by omega)
    refine ⟨Y', ?_, fun x b c d e g => by rw [a2 x b c d e g, z x b c d e g], fun j hj => by rw [a3 j hj, zk j hj], fun j hj => ?_⟩
    · rw [step, a1]
      have e : x2 + (runV U R (k + 1) V0 0 13 - runV U R k V0 0 13) + (runV U R L V0 0 13 - runV U R (k + 1) V0 0 13) = x2 + (runV U R L V0 0 13 - runV U R k V0 0 13) := by
        generalize runV U R (k + 1) V0 0 13 = a
        generalize runV U R L V0 0 13 = b
        generalize runV U R k V0 0 13 = c
        apply Int32.toBitVec_inj.1
        simp only [Int32.toBitVec_add, Int32.toBitVec_sub]
        bv_omega
      rw [e]
    · rw [a4 j hj, z06]
      by_cases w : j = 12 * (4 + r) + k
      · rw [if_neg (by omega), if_pos w, if_pos (by omega), show j - 12 * (4 + r) = k by omega]
      · rw [if_neg w]
        by_cases v : 12 * (4 + r) + (k + 1) ≤ j ∧ j < 12 * (4 + r) + L
        · rw [if_pos v, if_pos (by omega)]
        · rw [if_neg v, if_neg (by omega)]
end
section
/-! The paths of a trace by all rooms, on both sides. -/
theorem w_laysLoads {U : NodV} {V Vc : MemV} {H : OneV} {W : WkV} {n vol t T L r : Nat} (i : Inv U V H W n vol t T (fun _ => 0)) (C : CntI V) (tT : t + 300 ≤ T) (vc : VEq Vc V) (X : MemV) {J : MJ} (h : RefL J) (hr : r < 37) (L12 : L ≤ 12) {R : Nat → RouV} (Y : MI) (rr : Rel none U V H W (Y 194) n) (y11 : Y 188 11 = nI vol) (y36 : Y 188 36 = nI L) (y20 : Y 188 20 = -1) (y21 : Y 188 21 = -1) (hp : ∀ p, p < L → ∃ l, l ≤ 12 ∧ Y 203 p = nI l ∧ Pth (R p) (fun j => Y 202 (12 * p + j)) l) : ∃ Y', M_X10_laysLoads [mR (some 188), mI (nI (4 + r))] (Y, J) = some (some (mI (runV U R L (vst (gV_X1_keepMountsAlone Vc) X r) 0 13 - gV_X1_keepMountsAlone Vc 0 13)), (Y', J)) ∧ (∀ x, x ≠ 188 → x ≠ 193 → x ≠ 194 → x ≠ 195 → x ≠ 196 → x ≠ 200 → x ≠ 206 → Y' x = Y x) ∧ (∀ j, j ≠ 22 → Y' 188 j = Y 188 j) ∧ (∀ k, k < 1853 → Y' 194 k = Y 194 k) ∧ ∀ j, j < 492 → Y' 206 j = if 12 * (4 + r) ≤ j ∧ j < 12 * (4 + r) + L then runV U R (j - 12 * (4 + r) + 1) (vst (gV_X1_keepMountsAlone Vc) X r) 0 13 - runV U R (j - 12 * (4 + r)) (vst (gV_X1_keepMountsAlone Vc) X r) 0 13 else Y 206 j := by
  have wr : ∀ k, k < 4 → WkEq (W k) (W k) := fun k _ => WkEq.refl _
  have ic := i.cg (UEq.refl _) vc (fun _ _ => rfl) wr
  have pa := w_putsAside h Y
  have ao : ∀ x, x ≠ 196 → itr (rcp 194 196) 0 1853 Y x = Y x := fun x a => rcp_o 1853 0 Y a
  have a6 : ∀ j, j < 1853 → itr (rcp 194 196) 0 1853 Y 196 j = Y 194 j := fun j hj => by rw [rcp_at (by decide) 1853 0 Y j, if_pos (by omega)]
  generalize itr (rcp 194 196) 0 1853 Y = Y1 at pa ao a6
  have y94 : Y1 194 = Y 194 := ao 194 (by decide)
  have rc := rr.cg i.N.n60 (UEq.refl _) vc (fun _ _ => rfl) wr (fun _ _ => rfl)
  obtain ⟨A', D', c1, c2, c3, c4, c5, c6⟩ := w_clears i.N ic.M h Y1 (by rw [y94]; exact rc) (by rw [ao 188 (by decide)]; exact y11) (nI (4 + r))
  obtain ⟨⟨i0, C0⟩, rel, b13, _⟩ := vst_ok (r := r) i C vc X hr
  have r0 := rel (D' := D') rr (fun e he => by
    rw [c2 e he]
    by_cases e64 : e < 64
    · rw [(vc.2.1 e e64).1]
    · rw [if_neg (fun q => e64 q.1), if_neg (fun q => e64 q.1)]) c3 c4 c5 (fun j q1 q2 q3 q4 => by rw [c6 j q1 q2 q3 q4, y94])
  generalize vst (gV_X1_keepMountsAlone Vc) X r = V0 at i0 C0 r0 b13
  have co : ∀ x, x ≠ 194 → x ≠ 196 → x ≠ 200 → cf Y1 A' D' x = Y x := fun x a b c => by rw [cf_o _ _ _ a c, ao x b]
  have c94 : cf Y1 A' D' 194 = D' := cf_D _ _ _
  have c96 : cf Y1 A' D' 196 = Y1 196 := cf_o _ _ _ (by decide) (by decide)
  generalize cf Y1 A' D' = Y2 at c1 co c94 c96
  obtain ⟨Y3, d1, d2, d3, d4⟩ := loads_loop (U := U) (n := n) (vol := vol) (T := T) h hr L12 (R := R) V0 L 0 Y2 t 0 (by omega) (fun p hp' => by
    obtain ⟨l, b1, b2, b3⟩ := hp p hp'
    exact ⟨l, b1, by rw [co 203 (by decide) (by decide) (by decide)]; exact b2, by rw [co 202 (by decide) (by decide) (by decide)]; exact b3⟩) (by rw [co 188 (by decide) (by decide) (by decide)]; exact y36) (by rw [co 188 (by decide) (by decide) (by decide)]; exact y20) (by rw [co 188 (by decide) (by decide) (by decide)]; exact y21) (by rw [c94]; exact r0) i0 C0 (by omega)
  have tb := w_takesBack h Y3
  have bo : ∀ x, x ≠ 194 → itr (rcp 196 194) 0 1853 Y3 x = Y3 x := fun x a => rcp_o 1853 0 _ a
  have b4 : ∀ j, j < 1853 → itr (rcp 196 194) 0 1853 Y3 194 j = Y 194 j := fun j hj => by
    rw [rcp_at (by decide) 1853 0 _ j, if_pos (by omega), d2 196 (by decide) (by decide) (by decide) (by decide) (by decide), c96, a6 j hj]
  generalize itr (rcp 196 194) 0 1853 Y3 = Y4 at tb bo b4
  refine ⟨Y4, ?_, fun x p1 p2 p3 p4 p5 p6 p7 => ?_, fun j hj => ?_, b4, fun j hj => ?_⟩
  · rw [E_X10_laysLoads]
    simp only [h.kt, if_true, pa, Option.bind_some, asV_n, c1]
    rw [show (nI 0) = 0 from rfl] at d1
    rw [d1, E_X10_laysLoads_13]
    have y36' : Y3 188 36 = nI L := by rw [d3 36 (by decide), co 188 (by decide) (by decide) (by decide)]; exact y36
    simp only [h.fi, y36', Option.bind_some, if_pos (Int32.le_refl (nI L)), h.kt, if_true, tb, asV_n]
    rw [Int32.zero_add, show runV U R 0 V0 = V0 from rfl, b13]
  · rw [bo x p3, d2 x p1 p2 p3 p4 p7, co x p3 p5 p6]
  · rw [bo 188 (by decide), d3 j hj, co 188 (by decide) (by decide) (by decide)]
  · rw [bo 206 (by decide), d4 j hj, Nat.add_zero, co 206 (by decide) (by decide) (by decide)]
/-- what a run loads doesn't hang on what lay there before -/
theorem run_ind {U : NodV} {V Vc : MemV} {H : OneV} {W : WkV} {n vol t T L r : Nat} (i : Inv U V H W n vol t T (fun _ => 0)) (C : CntI V) (tT : t + 300 ≤ T) (vc : VEq Vc V) (X X' : MemV) {J : MJ} (h : RefL J) (hr : r < 37) (L12 : L ≤ 12) {R : Nat → RouV} (Y : MI) (rr : Rel none U V H W (Y 194) n) (y11 : Y 188 11 = nI vol) (y36 : Y 188 36 = nI L) (y20 : Y 188 20 = -1) (y21 : Y 188 21 = -1) (hp : ∀ p, p < L → ∃ l, l ≤ 12 ∧ Y 203 p = nI l ∧ Pth (R p) (fun j => Y 202 (12 * p + j)) l) : ∀ p, p ≤ L → runV U R p (vst (gV_X1_keepMountsAlone Vc) X r) 0 13 = runV U R p (vst (gV_X1_keepMountsAlone Vc) X' r) 0 13 := by
  obtain ⟨Y1, a1, _, _, _, a5⟩ := w_laysLoads i C tT vc X h hr L12 Y rr y11 y36 y20 y21 hp
  obtain ⟨Y2, b1, _, _, _, b5⟩ := w_laysLoads i C tT vc X' h hr L12 Y rr y11 y36 y20 y21 hp
  have e : Y1 = Y2 := by
    have := a1.symm.trans b1
    simp only [Option.some.injEq, Prod.mk.injEq] at this
    exact this.2.1
  subst e
  intro p
  induction p with
  | zero =>
    intro _
    show vst (gV_X1_keepMountsAlone Vc) X r 0 13 = vst (gV_X1_keepMountsAlone Vc) X' r 0 13
    rw [(vst_ok (r := r) i C vc X hr).2.2.1, (vst_ok (r := r) i C vc X' hr).2.2.1]
  | succ p ih =>
    intro hp'
    have q1 := a5 (12 * (4 + r) + p) (by omega)
    have q2 := b5 (12 * (4 + r) + p) (by omega)
    rw [if_pos (by omega), show 12 * (4 + r) + p - 12 * (4 + r) = p by omega] at q1 q2
    have q3 := q1.symm.trans q2
    rw [ih (by omega)] at q3
    have := congrArg (fun y => y + runV U R p (vst (gV_X1_keepMountsAlone Vc) X' r) 0 13) q3
    simpa only [Int32.sub_add_cancel] using this
/-! The class's table. -/
theorem rstep_e (r p : Nat) (I : MI) : rstep 69 1 r p I = up2 (pt I 82 (gV_X1_walk 12 (vw 2 I (134 + 2 * p)) (vw 6 I 1) (vw 12 I 82) (I (134 + 2 * p) 1))) (96 + r) p (gV_X1_walk 12 (vw 2 I (134 + 2 * p)) (vw 6 I 1) (vw 12 I 82) (I (134 + 2 * p) 1) 0 13 - I 82 13) := rfl
theorem rrun_loop {U : NodV} {R : Nat → RouV} {r : Nat} (hr : r < 37) (V0 : MemV) : ∀ (n k : Nat) (I' : MI), k + n ≤ 12 → (∀ p, p < 12 → vw 2 I' (134 + 2 * p) = R p) → vw 6 I' 1 = U → vw 12 I' 82 = runV U R k V0 → vw 12 (itr (fun p I => rstep 69 1 r p I) k n I') 82 = runV U R (k + n) V0 ∧ (∀ j, itr (fun p I => rstep 69 1 r p I) k n I' (96 + r) j = if k ≤ j ∧ j < k + n then runV U R (j + 1) V0 0 13 - runV U R j V0 0 13 else I' (96 + r) j) ∧ ∀ x, (x < 82 ∨ 94 ≤ x) → x ≠ 96 + r → itr (fun p I => rstep 69 1 r p I) k n I' x = I' x
  | 0, k, I', _, _, _, hV => ⟨by rw [Nat.add_zero]; exact hV, fun j => by rw [if_neg (by omega)]; rfl, fun x _ _ => rfl⟩
  | n + 1, k, I', hk, hR, hU, hV => by
    have e : itr (fun p I => rstep 69 1 r p I) k (n + 1) I' = itr (fun p I => rstep 69 1 r p I) (k + 1) n (rstep 69 1 r k I') := rfl
    have rk : I' (134 + 2 * k) 1 = R k 0 1 := by rw [← hR k (by omega)]; rfl
    have se : rstep 69 1 r k I' = up2 (pt I' 82 (runV U R (k + 1) V0)) (96 + r) k (runV U R (k + 1) V0 0 13 - runV U R k V0 0 13) := by
      rw [rstep_e, hR k (by omega), hU, hV, rk]
      have : I' 82 13 = runV U R k V0 0 13 := by rw [← hV]; rfl
      rw [this]
      rfl
    have o : ∀ x, (x < 82 ∨ 94 ≤ x) → x ≠ 96 + r → rstep 69 1 r k I' x = I' x := fun x a b => by rw [se, up2_o _ _ _ b, pt_out (by omega)]
    have w82 : vw 12 (rstep 69 1 r k I') 82 = runV U R (k + 1) V0 := by
      rw [se, vw_up2 _ _ _ _ _ (by omega), vw_pt]
    obtain ⟨g1, g2, g3⟩ := rrun_loop hr V0 n (k + 1) (rstep 69 1 r k I') (by omega) (fun p hp => by rw [vw_fr (I := I') (fun x _ _ => o x (by omega) (by omega))]; exact hR p hp) (by rw [vw_fr (I := I') (fun x _ _ => o x (by omega) (by omega))]; exact hU) w82
    refine ⟨by rw [e, g1, show k + 1 + n = k + (n + 1) by omega], fun j => ?_, fun x a b => by rw [e, g3 x a b, o x a b]⟩
    rw [e, g2 j, se, up2_r, pt_out (by omega)]
    by_cases z : j = k
    · rw [if_neg (by omega), if_pos z, if_pos (by omega), z]
    · rw [if_neg z]
      by_cases w : k + 1 ≤ j ∧ j < k + 1 + n
      · rw [if_pos w, if_pos (by omega)]
      · rw [if_neg w, if_neg (by omega)]
theorem rI_q {I : MI} {U : NodV} {R : Nat → RouV} {B : MemV} {r L : Nat} (hr : r < 37) (L12 : L ≤ 12) (hR : ∀ p, p < 12 → vw 2 I (134 + 2 * p) = R p) (hU : vw 6 I 1 = U) (hB : vw 12 I 70 = B) : ∃ X, vw 12 (rI I 69 1 r L) 82 = runV U R L (vst B X r) ∧ (∀ j, rI I 69 1 r L (96 + r) j = if j < L then runV U R (j + 1) (vst B X r) 0 13 - runV U R j (vst B X r) 0 13 else I (96 + r) j) ∧ (∀ j, rI I 69 1 r L 133 j = if j = r then runV U R L (vst B X r) 0 13 - vst B X r 0 13 else I 133 j) ∧ ∀ x, (x < 82 ∨ 94 ≤ x) → x ≠ 96 + r → x ≠ 133 → rI I 69 1 r L x = I x := by
  refine ⟨vw 12 I 82, ?_⟩
  have e0 : rrun I 69 1 r L = itr (fun p I => rstep 69 1 r p I) 0 L (pt I 82 (vst (vw 12 I 70) (vw 12 I 82) r)) := rfl
  rw [hB] at e0
  have po : ∀ x, (x < 82 ∨ 94 ≤ x) → pt I 82 (vst B (vw 12 I 82) r) x = I x := fun x a => pt_out (by omega)
  obtain ⟨g1, g2, g3⟩ := rrun_loop (U := U) (R := R) hr (vst B (vw 12 I 82) r) L 0 (pt I 82 (vst B (vw 12 I 82) r)) (by omega) (fun p hp => by rw [vw_fr (I := I) (fun x _ _ => po x (by omega))]; exact hR p hp) (by rw [vw_fr (I := I) (fun x _ _ => po x (by omega))]; exact hU) (vw_pt _ _ _)
  rw [← e0] at g1 g2 g3
  rw [Nat.zero_add] at g1
  have e1 : rI I 69 1 r L = up2 (rrun I 69 1 r L) 133 r (rrun I 69 1 r L 82 13 - gV_X1_copyFrom (vw 12 I 70) (vw 12 I 82) 0 13) := rfl
  have c13 : gV_X1_copyFrom (vw 12 I 70) (vw 12 I 82) 0 13 = vst B (vw 12 I 82) r 0 13 := by
    rw [hB]
    exact (lm_0 _ _ (by decide)).symm
  have r13 : rrun I 69 1 r L 82 13 = runV U R L (vst B (vw 12 I 82) r) 0 13 := by rw [← g1]; rfl
  rw [c13, r13] at e1
  refine ⟨by rw [e1, vw_up2 _ _ _ _ _ (by omega)]; exact g1, fun j => ?_, fun j => ?_, fun x a b c => ?_⟩
  · rw [e1, up2_o _ _ _ (by omega), g2 j, po _ (by omega)]
    by_cases w : j < L
    · rw [if_pos (by omega), if_pos w]
    · rw [if_neg (by omega), if_neg w]
  · rw [e1, up2_r, g3 133 (by omega) (by omega), po _ (by omega)]
  · rw [e1, up2_o _ _ _ c, g3 x a b, po x a]
/-- the table of all rooms -/
theorem all_q {I : MI} {U : NodV} {R : Nat → RouV} {B : MemV} {L z : Nat} (L12 : L ≤ 12) (hR : ∀ p, p < 12 → vw 2 I (134 + 2 * p) = R p) (hU : vw 6 I 1 = U) (hB : gV_X1_keepMountsAlone (gV_X1_copyFrom (vw 12 I 17) (vw 12 I 70)) = B) (val : Nat → Nat → Int32) (hv : ∀ X r p, r < 37 → p ≤ L → runV U R p (vst B X r) 0 13 = val r p) (b14 : ∀ X r, vst B X r 0 14 = B 0 14) (hz : B 0 14 = nI z) (z30 : z ≤ 1000000000) (hl : ∀ p, p < L → ix (R p 0 1) ≤ 12) : ∀ r, r < 37 → (∀ p, p < L → allI I L (96 + r) p = val r (p + 1) - val r p) ∧ allI I L 133 r = val r L - val r 0 := by
  have e0 : allI I L = (itr (fun r s => astep 69 1 L r s) 0 37 (1, pt I 70 B)).2 := by
    rw [← hB]
    rfl
  have v0 : ∀ X r, r < 37 → vst B X r 0 13 = val r 0 := fun X r hr => hv X r 0 hr (Nat.zero_le _)
  have main : ∀ (n r : Nat) (s : Int32 × MI), r + n = 37 → (∀ p, p < 12 → vw 2 s.2 (134 + 2 * p) = R p) → vw 6 s.2 1 = U → vw 12 s.2 70 = B → (∀ r', r' < r → (∀ p, p < L → s.2 (96 + r') p = val r' (p + 1) - val r' p) ∧ s.2 133 r' = val r' L - val r' 0) → (s.1 = 0 → r = 0 ∨ ∃ r0, r0 < r ∧ ∀ r', r0 ≤ r' → r' < 37 → ∀ p, p ≤ L → val r' p = val r0 p) → ∀ r', r' < 37 → (∀ p, p < L → (itr (fun r s => astep 69 1 L r s) r n s).2 (96 + r') p = val r' (p + 1) - val r' p) ∧ (itr (fun r s => astep 69 1 L r s) r n s).2 133 r' = val r' L - val r' 0 := by
    intro n
    induction n with
    | zero =>
      intro r s hr _ _ _ ok _ r' hr'
      exact ok r' (by omega)
    | succ n ih =>
      intro r s hr sR sU sB ok loo
      have e1 : itr (fun r s => astep 69 1 L r s) r (n + 1) s = itr (fun r s => astep 69 1 L r s) (r + 1) n (astep 69 1 L r s) := rfl
      rw [e1]
      by_cases c : s.1 = 0 ∧ r ≠ 0
      · have ea : astep 69 1 L r s = (s.1, ccp 69 r s.2) := by
          unfold astep
          rw [if_pos c]
        obtain ⟨r0, r0r, lo⟩ := (loo c.1).resolve_left c.2
        have ce : ∀ x j, ccp 69 r s.2 x j = if x = 133 ∧ j = r then s.2 133 (r - 1) else if x = 96 + r ∧ j < 12 then s.2 (96 + (r - 1)) j else s.2 x j := fun x j => rfl
        have co : ∀ x, x ≠ 133 → x ≠ 96 + r → ccp 69 r s.2 x = s.2 x := fun x a b => by
          funext j
          rw [ce, if_neg (fun q => a q.1), if_neg (fun q => b q.1)]
        rw [ea]
        refine ih (r + 1) (s.1, ccp 69 r s.2) (by omega) (fun p hp => by rw [vw_fr (I := s.2) (fun x _ _ => co x (by omega) (by omega))]; exact sR p hp) (by rw [vw_fr (I := s.2) (fun x _ _ => co x (by omega) (by omega))]; exact sU) (by rw [vw_fr (I := s.2) (fun x _ _ => co x (by omega) (by omega))]; exact sB) (fun r' hr' => ?_) (fun _ => Or.inr ⟨r0, by omega, lo⟩)
        show (∀ p, p < L → ccp 69 r s.2 (96 + r') p = _) ∧ ccp 69 r s.2 133 r' = _
        by_cases w : r' = r
        · subst w
          obtain ⟨o1, o2⟩ := ok (r' - 1) (by omega)
          have q : ∀ p, p ≤ L → val r' p = val (r' - 1) p := fun p hp => by rw [lo r' (by omega) (by omega) p hp, lo (r' - 1) (by omega) (by omega) p hp]
          refine ⟨fun p hp => ?_, ?_⟩
          · rw [ce, if_neg (by omega), if_pos ⟨rfl, by omega⟩, o1 p hp, q (p + 1) (by omega), q p (by omega)]
          · rw [ce, if_pos ⟨rfl, rfl⟩, o2, q L (Nat.le_refl _), q 0 (Nat.zero_le _)]
        · obtain ⟨o1, o2⟩ := ok r' (by omega)
          refine ⟨fun p hp => ?_, ?_⟩
          · rw [co _ (by omega) (by omega)]; exact o1 p hp
          · rw [ce, if_neg (fun q => w q.2), if_neg (by omega)]; exact o2
      · have ea : astep 69 1 L r s = (if rI s.2 69 1 r L 82 14 ≤ s.2 70 14 then 0 else 1, rI s.2 69 1 r L) := by
          unfold astep
          rw [if_neg c]
        obtain ⟨X, g1, g2, g3, g4⟩ := rI_q (U := U) (R := R) (B := B) (show r < 37 by omega) L12 sR sU sB
        rw [ea]
        refine ih (r + 1) _ (by omega) (fun p hp => by rw [vw_fr (I := s.2) (fun x _ _ => g4 x (by omega) (by omega) (by omega))]; exact sR p hp) (by rw [vw_fr (I := s.2) (fun x _ _ => g4 x (by omega) (by omega) (by omega))]; exact sU) (by rw [vw_fr (I := s.2) (fun x _ _ => g4 x (by omega) (by omega) (by omega))]; exact sB) (fun r' hr' => ?_) (fun q => ?_)
        · show (∀ p, p < L → rI s.2 69 1 r L (96 + r') p = _) ∧ rI s.2 69 1 r L 133 r' = _
          by_cases w : r' = r
          · subst w
            refine ⟨fun p hp => ?_, ?_⟩
            · rw [g2, if_pos hp, hv X r' (p + 1) (by omega) (by omega), hv X r' p (by omega) (by omega)]
            · rw [g3, if_pos rfl, hv X r' L (by omega) (Nat.le_refl _), v0 X r' (by omega)]
          · obtain ⟨o1, o2⟩ := ok r' (by omega)
            refine ⟨fun p hp => ?_, ?_⟩
            · rw [g4 _ (by omega) (by omega) (by omega)]; exact o1 p hp
            · rw [g3, if_neg w]; exact o2
        · have le : rI s.2 69 1 r L 82 14 ≤ s.2 70 14 := by
            by_cases y : rI s.2 69 1 r L 82 14 ≤ s.2 70 14
            · exact y
            · have q' : (if rI s.2 69 1 r L 82 14 ≤ s.2 70 14 then (0 : Int32) else 1) = 0 := q
              rw [if_neg y] at q'
              exact absurd q' i10
          have x82 : rI s.2 69 1 r L 82 14 = runV U R L (vst B X r) 0 14 := by rw [← g1]; rfl
          have x70 : s.2 70 14 = nI z := by rw [← hz, ← sB]; rfl
          refine Or.inr ⟨r, by omega, fun r' h1 h2 p hp => ?_⟩
          obtain ⟨m, m1, m2, _, m4⟩ := lm_run (U := U) (R := R) (V := vst B X r) (l := 4 + r) (l' := 4 + r') (lm_11 _ _) (by omega) (by omega) L hl
          rw [x82, x70, m2, b14, hz, nI_add] at le
          have m0 : m = 0 := by
            have := (nI_leI (by omega) (by omega)).mp le
            omega
          have ee : lm (vst B X r) (nI (4 + r')) = vst B X r' := by
            unfold vst lm
            funext k j
            simp only [uv]
            by_cases y : k = 0 ∧ j = 11
            · rw [if_pos y, if_pos y]
            · rw [if_neg y, if_neg y, if_neg y]
          have := m4 m0 p hp
          rw [ee] at this
          rw [← hv X r' p h2 hp, this, lm_0 _ _ (by decide), hv X r p (by omega) hp]
  have po : ∀ x, (x < 70 ∨ 82 ≤ x) → pt I 70 B x = I x := fun x a => pt_out (by omega)
  intro r hr
  rw [e0]
  exact main 37 0 (1, pt I 70 B) (by omega) (fun p hp => by rw [vw_fr (I := I) (fun x _ _ => po x (by omega))]; exact hR p hp) (by rw [vw_fr (I := I) (fun x _ _ => po x (by omega))]; exact hU) (vw_pt _ _ _) (fun r' h => by omega) (fun q => absurd (show (1 : Int32) = 0 from q) i10) r hr
end
section
/-! What a trace loads, on both sides. -/
/-- one room of the reference's -/
def RLo (I : MI) (J : MJ) (L : Nat) (val : Nat → Nat → Int32) : Prop := ∀ (Y : MI), (∀ k, k < 1853 → Y 194 k = I 194 k) → Y 202 = I 202 → Y 203 = I 203 → (∀ j, j ≠ 22 → Y 188 j = I 188 j) → ∀ r, r < 37 → ∃ Y', M_X10_laysLoads [mR (some 188), mI (nI (4 + r))] (Y, J) = some (some (mI (val r L - val r 0)), (Y', J)) ∧ (∀ x, x ≠ 188 → x ≠ 193 → x ≠ 194 → x ≠ 195 → x ≠ 196 → x ≠ 200 → x ≠ 206 → Y' x = Y x) ∧ (∀ j, j ≠ 22 → Y' 188 j = Y 188 j) ∧ (∀ k, k < 1853 → Y' 194 k = Y 194 k) ∧ ∀ j, j < 492 → Y' 206 j = if 12 * (4 + r) ≤ j ∧ j < 12 * (4 + r) + L then val r (j - 12 * (4 + r) + 1) - val r (j - 12 * (4 + r)) else Y 206 j
theorem trc_pre {I : MI} {J : MJ} {T B0 : Nat} (h : St I J T B0) (h30 : T + 10001 ≤ 1000000000) : ∃ L, L ≤ 12 ∧ I 69 1 = nI L ∧ I 188 36 = nI L ∧ I 69 2 = I 188 37 ∧ (L = 0 ∨ ∃ val : Nat → Nat → Int32, (∀ r, r < 37 → (∀ p, p < L → allI I L (96 + r) p = val r (p + 1) - val r p) ∧ allI I L 133 r = val r L - val r 0) ∧ (∀ r, r < 37 → rI (prep I 69 17) 69 1 r L 133 r = val r L - val r 0 ∧ ∀ x, (x < 70 ∨ 134 ≤ x) → rI (prep I 69 17) 69 1 r L x = I x) ∧ RLo I J L val) := by
  obtain ⟨L, s1, s2, s3, s4, s5⟩ := h.2.2.2.2.2.2.2.1
  refine ⟨L, s2, s1, s3, s4, ?_⟩
  rcases h.2.2.2.2.2.2.2.2.2 with ⟨vol, ad, p, q, hv, td, ⟨nn, t, i, c, r⟩, hs⟩ | u
  · refine Or.inr ?_
    have s8 := h.2.2.2.2.2.2.2.2.1
    have tT := i.Z.tT
    have i' := i.T (show T ≤ T + 10001 by omega) h30
    have vc := VEq.copy (vw 12 I 17) (vw 12 I 70)
    have tri := i.Z.tri
    obtain ⟨z, z1, z2⟩ := tri
    have z30 : z ≤ 1000000000 := by have := i.Z.T30; omega
    have Bz : gV_X1_keepMountsAlone (gV_X1_copyFrom (vw 12 I 17) (vw 12 I 70)) 0 14 = nI z := by
      rw [(bare_q _).1 0 (by decide) (by decide), vc.1.2.2.2]
      exact z1
    have prepE : prep I 69 17 = pt I 70 (gV_X1_keepMountsAlone (gV_X1_copyFrom (vw 12 I 17) (vw 12 I 70))) := rfl
    have hpp : ∀ (Y : MI), Y 202 = I 202 → Y 203 = I 203 → ∀ p, p < L → ∃ l, l ≤ 12 ∧ Y 203 p = nI l ∧ Pth (vw 2 I (134 + 2 * p)) (fun j => Y 202 (12 * p + j)) l := fun Y y2 y3 p hp => by
      rw [y2, y3]
      exact s5 p hp
    have wr : ∀ k, k < 4 → WkEq (wks I 31 k) (wks I 31 k) := fun k _ => WkEq.refl _
    have ind := fun (X : MemV) (r' : Nat) (hr : r' < 37) => run_ind (R := fun p => vw 2 I (134 + 2 * p)) (L := L) i' c (by omega) vc X (fun _ _ => 0) h.1.2 hr s2 I r hv s3 s8.1 s8.2 (hpp I rfl rfl)
    have b14 : ∀ X r', r' < 37 → vst (gV_X1_keepMountsAlone (gV_X1_copyFrom (vw 12 I 17) (vw 12 I 70))) X r' 0 14 = gV_X1_keepMountsAlone (gV_X1_copyFrom (vw 12 I 17) (vw 12 I 70)) 0 14 := fun X r' hr => (vst_ok (r := r') i' c vc X hr).2.2.2
    have b14' : ∀ X r', vst (gV_X1_keepMountsAlone (gV_X1_copyFrom (vw 12 I 17) (vw 12 I 70))) X r' 0 14 = gV_X1_keepMountsAlone (gV_X1_copyFrom (vw 12 I 17) (vw 12 I 70)) 0 14 := fun X r' => by
      have := b14 X 0 (by decide)
      have e : ∀ r', vst (gV_X1_keepMountsAlone (gV_X1_copyFrom (vw 12 I 17) (vw 12 I 70))) X r' 0 14 = gV_X1_copyFrom (gV_X1_keepMountsAlone (gV_X1_copyFrom (vw 12 I 17) (vw 12 I 70))) X 0 14 := fun r' => lm_0 _ _ (by decide)
      rw [e] at this ⊢
      exact this
    have lay := fun (Y : MI) (X : MemV) (r' : Nat) (hr : r' < 37) (y94 : ∀ k, k < 1853 → Y 194 k = I 194 k) (y2 : Y 202 = I 202) (y3 : Y 203 = I 203) (yk : ∀ j, j ≠ 22 → Y 188 j = I 188 j) => w_laysLoads (R := fun p => vw 2 I (134 + 2 * p)) (L := L) i' c (by omega) vc X h.1.2 hr s2 Y (r.cg i.N.n60 (UEq.refl _) (VEq.refl _) (fun _ _ => rfl) wr y94) (by rw [yk 11 (by decide)]; exact hv) (by rw [yk 36 (by decide)]; exact s3) (by rw [yk 20 (by decide)]; exact s8.1) (by rw [yk 21 (by decide)]; exact s8.2) (hpp Y y2 y3)
    generalize hB : gV_X1_keepMountsAlone (gV_X1_copyFrom (vw 12 I 17) (vw 12 I 70)) = B at Bz prepE ind b14 b14' lay
    have v13 : ∀ X r', r' < 37 → vst B X r' 0 13 = B 0 13 := fun X r' hr => by
      have := (vst_ok (r := r') i' c vc X hr).2.2.1
      rw [hB] at this
      exact this
    refine ⟨fun r' p => runV (vw 6 I 1) (fun p => vw 2 I (134 + 2 * p)) p (vst B (fun _ _ => 0) r') 0 13, ?_, fun r' hr => ?_, fun Y y94 y2 y3 yk r' hr => ?_⟩
    · exact all_q (R := fun p => vw 2 I (134 + 2 * p)) s2 (fun p _ => rfl) rfl hB _ (fun X r' p hr hp => ind X r' hr p hp) b14' Bz z30 (fun p hp => by
        obtain ⟨l, l1, _, l3⟩ := s5 p hp
        have e : vw 2 I (134 + 2 * p) 0 1 = nI l := l3.1
        show ix (vw 2 I (134 + 2 * p) 0 1) ≤ 12
        rw [e, ix_nI (by omega)]
        exact l1)
    · have po : ∀ x, (x < 70 ∨ 82 ≤ x) → pt I 70 B x = I x := fun x a => pt_out (by omega)
      obtain ⟨X, g1, g2, g3, g4⟩ := rI_q (I := pt I 70 B) (U := vw 6 I 1) (R := fun p => vw 2 I (134 + 2 * p)) (B := B) (r := r') (L := L) hr s2 (fun p hp => vw_fr (fun x _ _ => po x (by omega))) (vw_fr (fun x _ _ => po x (by omega))) (vw_pt _ _ _)
      rw [prepE]
      refine ⟨?_, fun x hx => by rw [g4 x (by omega) (by omega) (by omega), po x (by omega)]⟩
      rw [g3, if_pos rfl, ind X r' hr L (Nat.le_refl _), v13 X r' hr]
      show _ = _ - vst B (fun _ _ => 0) r' 0 13
      rw [v13 _ r' hr]
    · obtain ⟨Y', a1, a2, a3, a4, a5⟩ := lay Y (fun _ _ => 0) r' hr y94 y2 y3 yk
      refine ⟨Y', ?_, a2, a3, a4, a5⟩
      rw [a1]
      show _ = some (some (mI (_ - vst B (fun _ _ => 0) r' 0 13)), _)
      rw [v13 _ r' hr]
  · refine Or.inl ?_
    have := u.2.2.2.1.1
    rw [s1] at this
    exact (nI_eq (by omega) (by omega)).mp (this.trans nI_0.symm)
/-- what stays where the reference lays out loads -/
def KeY (Y Y' : MI) : Prop := (∀ x, x ≠ 188 → x ≠ 193 → x ≠ 194 → x ≠ 195 → x ≠ 196 → x ≠ 200 → x ≠ 206 → x ≠ 207 → Y' x = Y x) ∧ (∀ j, j ≠ 22 → Y' 188 j = Y 188 j) ∧ ∀ k, k < 1853 → Y' 194 k = Y 194 k
theorem KeY.refl (Y : MI) : KeY Y Y := ⟨fun _ _ _ _ _ _ _ _ _ => rfl, fun _ _ => rfl, fun _ _ => rfl⟩
theorem KeY.trans {A B C : MI} (h : KeY A B) (g : KeY B C) : KeY A C := ⟨fun x a b c d e f k m => by rw [g.1 x a b c d e f k m, h.1 x a b c d e f k m], fun j hj => by rw [g.2.1 j hj, h.2.1 j hj], fun k hk => by rw [g.2.2 k hk, h.2.2 k hk]⟩
theorem St.key {I X Y : MI} {J : MJ} {T B0 : Nat} (h : St I J T B0) (h30 : T + 10001 ≤ 1000000000) (xo : ∀ x, (x < 70 ∨ 134 ≤ x) → X x = I x) (k : KeY X Y) : St Y J (T + 10001) B0 := by
  refine h.qq h30 (h.2.1.fr ?_ ?_ ?_ ?_) (h.2.2.2.1.fr ?_ ?_) (fun x w => ?_) (fun j w => ?_) (fun j hj => ?_)
  · rw [k.1 7 (by decide) (by decide) (by decide) (by decide) (by decide) (by decide) (by decide) (by decide), xo 7 (by decide)]
  · rw [k.1 8 (by decide) (by decide) (by decide) (by decide) (by decide) (by decide) (by decide) (by decide), xo 8 (by decide)]
  · rw [k.2.1 1 (by decide), xo 188 (by decide)]
  · rw [k.1 189 (by decide) (by decide) (by decide) (by decide) (by decide) (by decide) (by decide) (by decide), xo 189 (by decide)]
  · rw [k.1 186 (by decide) (by decide) (by decide) (by decide) (by decide) (by decide) (by decide) (by decide), xo 186 (by decide)]
  · rw [k.1 190 (by decide) (by decide) (by decide) (by decide) (by decide) (by decide) (by decide) (by decide), xo 190 (by decide)]
  · unfold OkC at w
    rw [k.1 x (by omega) (by omega) (by omega) (by omega) (by omega) (by omega) (by omega) (by omega), xo x (by omega)]
  · unfold OkK at w
    rw [k.2.1 j (by omega), xo 188 (by decide)]
  · rw [k.2.2 j hj, xo 194 (by decide)]
theorem RLo.go {I : MI} {J : MJ} {L : Nat} {val : Nat → Nat → Int32} (rl : RLo I J L val) {X Y : MI} (xo : ∀ x, (x < 70 ∨ 134 ≤ x) → X x = I x) (k : KeY X Y) {r : Nat} (hr : r < 37) : ∃ Y', M_X10_laysLoads [mR (some 188), mI (nI (4 + r))] (Y, J) = some (some (mI (val r L - val r 0)), (Y', J)) ∧ KeY X Y' ∧ Y' 207 = Y 207 ∧ ∀ j, j < 492 → Y' 206 j = if 12 * (4 + r) ≤ j ∧ j < 12 * (4 + r) + L then val r (j - 12 * (4 + r) + 1) - val r (j - 12 * (4 + r)) else Y 206 j := by
  obtain ⟨Y', a1, a2, a3, a4, a5⟩ := rl Y (fun j hj => by rw [k.2.2 j hj, xo 194 (by decide)]) (by rw [k.1 202 (by decide) (by decide) (by decide) (by decide) (by decide) (by decide) (by decide) (by decide), xo 202 (by decide)]) (by rw [k.1 203 (by decide) (by decide) (by decide) (by decide) (by decide) (by decide) (by decide) (by decide), xo 203 (by decide)]) (fun j hj => by rw [k.2.1 j hj, xo 188 (by decide)]) r hr
  exact ⟨Y', a1, k.trans ⟨fun x b c d e f g m _ => a2 x b c d e f g m, a3, a4⟩, a2 207 (by decide) (by decide) (by decide) (by decide) (by decide) (by decide) (by decide), a5⟩
theorem in440 {x : Int32} (a : ¬ x < 4) (b : ¬ (40 : Int32) < x) : ∃ r, r < 37 ∧ x = nI (4 + r) := by
  have x0 : ¬ x < 0 := fun z => a (Int32.lt_trans z (by decide))
  obtain ⟨j, j31, hj⟩ := nI_of x0
  subst hj
  have a1 : 4 ≤ j := by
    rcases Nat.lt_or_ge j 4 with z | z
    · exact absurd (nI_lt (b := 4) z (by decide)) a
    · exact z
  have a2 : j ≤ 40 := by
    rcases Nat.lt_or_ge 40 j with z | z
    · exact absurd (nI_lt (a := 40) z j31) b
    · exact z
  exact ⟨j - 4, by omega, by rw [show 4 + (j - 4) = j by omega]⟩
theorem P_loads {I : MI} {J : MJ} {T B0 : Nat} (h : St I J T B0) (h30 : T + 10001 ≤ 1000000000) (x : Int32) : Pair I J T B0 (M_X9_loads [mR (some 0), mI x]) (M_X10_loads [mR (some 188), mI x]) := by
  obtain ⟨L, L12, l1, l2, _, alt⟩ := trc_pre h h30
  have rl := h.1.2
  have isn := fun s => w_isIn x 4 40 s (show (4 : Int64) = Int32.toInt64 4 from rfl) (show (40 : Int64) = Int32.toInt64 40 from rfl)
  by_cases L0 : L = 0
  · have z : I 69 1 ≤ 0 := by rw [l1, L0]; exact Int32.le_refl _
    refine Pair.ask h h30 (u_loads_no h.1.1 I x (Or.inr (Or.inr z))) (w := -1) ?_ rfl
    rw [E_X10_loads]
    simp only [rl.fi, l2, L0, Option.bind_some, show nI 0 = 0 from rfl, if_pos (Int32.le_refl (0 : Int32))]
  · have lp : ¬ nI L ≤ 0 := nI_nle (by omega) (by omega)
    by_cases a : x < 4
    · refine Pair.ask h h30 (u_loads_no h.1.1 I x (Or.inl a)) (w := -1) ?_ rfl
      rw [E_X10_loads]
      simp only [rl.fi, l2, Option.bind_some, if_neg lp, isn, asI_I, if_pos a, if_true]
    by_cases b : (40 : Int32) < x
    · refine Pair.ask h h30 (u_loads_no h.1.1 I x (Or.inr (Or.inl b))) (w := -1) ?_ rfl
      rw [E_X10_loads]
      simp only [rl.fi, l2, Option.bind_some, if_neg lp, isn, asI_I, if_neg a, if_pos b, if_true]
    obtain ⟨val, _, one, lo⟩ := alt.resolve_left L0
    obtain ⟨r, hr, hx⟩ := in440 a b
    subst hx
    have uE := u_loads h.1.1 I hr l1 L12 L0
    obtain ⟨o1, o2⟩ := one r hr
    rw [o1] at uE
    obtain ⟨Y', a1, a2, _⟩ := lo.go (X := rI (prep I 69 17) 69 1 r L) (Y := rI (prep I 69 17) 69 1 r L) o2 (KeY.refl _) hr
    refine ⟨_, _, Y', J, uE, ?_, h.key h30 o2 a2⟩
    rw [E_X10_loads]
    simp only [rl.fi, o2 188 (by decide), l2, Option.bind_some, if_neg lp, isn, asI_I, if_neg a, if_neg b, if_neg i10, rl.kt, if_true, a1]
theorem all_out (I : MI) (L : Nat) : ∀ x, (x < 70 ∨ 134 ≤ x) → allI I L x = I x := fun x hx => allI_out I L x (by omega) (by omega)
theorem least_loop {I X : MI} {J : MJ} {L : Nat} {val : Nat → Nat → Int32} (rl : RefL J) (lo : RLo I J L val) (xo : ∀ x, (x < 70 ∨ 134 ≤ x) → X x = I x) (l2 : I 188 36 = nI L) (L0 : L ≠ 0) (L12 : L ≤ 12) (x : Int32) : ∀ (n r : Nat) (Y : MI), r + n = 37 → KeY X Y → ∃ Y', Ev T_X10_least 2 [some (mR (some 188)), some (mI x), some (mI (nI (4 + r)))] [] (Y, J) = some (some (mI (match fst? (fun k => decide (¬ x < val k L - val k 0)) r n with
    | some k => nI (4 + k)
    | none => -1)), (Y', J)) ∧ KeY X Y' := by
  have lp : ¬ nI L ≤ 0 := nI_nle (by omega) (by omega)
  intro n
  induction n with
  | zero =>
    intro r Y hr k
    refine ⟨Y, ?_, k⟩
    rw [E_X10_least_2, if_pos (show (40 : Int32) < nI (4 + r) from nI_lt (a := 40) (by omega) (by omega))]
    rfl
  | succ n ih =>
    intro r Y hr k
    obtain ⟨Y1, a1, a2, _⟩ := lo.go xo k (show r < 37 by omega)
    have y36 : Y 188 36 = nI L := by rw [k.2.1 36 (by decide), xo 188 (by decide)]; exact l2
    have e : fst? (fun k => decide (¬ x < val k L - val k 0)) r (n + 1) = if decide (¬ x < val r L - val r 0) = true then some r else fst? (fun k => decide (¬ x < val k L - val k 0)) (r + 1) n := rfl
    rw [e, E_X10_least_2, if_neg (show ¬ (40 : Int32) < nI (4 + r) from nI_nlt (a := 40) (by omega) (by omega))]
    simp only [rl.fi, y36, Option.bind_some, if_neg lp, rl.kt, if_true, a1, asI_I, nI_1]
    by_cases c : x < val r L - val r 0
    · rw [if_pos c, if_neg (by simp [c])]
      exact ih (r + 1) Y1 (by omega) a2
    · rw [if_neg c, if_pos (by simp [c])]
      exact ⟨Y1, rfl, a2⟩
theorem P_least {I : MI} {J : MJ} {T B0 : Nat} (h : St I J T B0) (h30 : T + 10001 ≤ 1000000000) (x : Int32) : Pair I J T B0 (M_X9_least [mR (some 0), mI x]) (M_X10_least [mR (some 188), mI x]) := by
  obtain ⟨L, L12, l1, l2, _, alt⟩ := trc_pre h h30
  have rl := h.1.2
  have uE := u_least h.1.1 I x l1 L12
  by_cases L0 : L = 0
  · rw [if_pos L0] at uE
    refine Pair.ask h h30 uE (w := -1) ?_ rfl
    rw [E_X10_least, E_X10_least_2, if_neg (show ¬ (40 : Int32) < 4 by decide)]
    simp only [rl.fi, l2, L0, Option.bind_some, show nI 0 = 0 from rfl, if_pos (Int32.le_refl (0 : Int32))]
  · rw [if_neg L0] at uE
    obtain ⟨val, tab, _, lo⟩ := alt.resolve_left L0
    obtain ⟨Y', a1, a2⟩ := least_loop rl lo (all_out I L) l2 L0 L12 x 37 0 (allI I L) (by omega) (KeY.refl _)
    refine ⟨_, _, Y', J, uE, ?_, h.key h30 (all_out I L) a2⟩
    rw [E_X10_least]
    have e4 : (4 : Int32) = nI (4 + 0) := rfl
    rw [e4, a1]
    have ee : f_leastRoom (allI I L) 69 x = fst? (fun k => decide (¬ x < val k L - val k 0)) 0 37 := fst_cong (fun k _ hk => by
      have : allI I L (69 + 64) k = val k L - val k 0 := (tab k (by omega)).2
      rw [this])
    unfold q_X6_leastRoom
    rw [ee]
    generalize fst? (fun k => decide (¬ x < val k L - val k 0)) 0 37 = o
    cases o <;> rfl
end
section
/-! What fits, on both sides. -/
theorem RefL.f42 {J : MJ} (h : RefL J) (I : MI) : fR (I, J) 10 188 42 = some (some 207) := by rw [fR_ok 42 h.k, h.r42]
/-- rows laid out so far -/
def Tbl (Y : MI) (L : Nat) (val : Nat → Nat → Int32) (ft : Nat → Bool) (r : Nat) : Prop := ∀ r', r' < r → (Y 207 (4 + r') = if ft r' = true then 1 else 0) ∧ ∀ p, p < L → Y 206 (12 * (4 + r') + p) = val r' (p + 1) - val r' p
theorem fits_loop {I X : MI} {J : MJ} {L : Nat} {val : Nat → Nat → Int32} (rl : RefL J) (lo : RLo I J L val) (xo : ∀ x, (x < 70 ∨ 134 ≤ x) → X x = I x) (L12 : L ≤ 12) {sn : Int32} (hs : I 188 37 = sn) : ∀ (n r c : Nat) (Y : MI), r + n = 37 → KeY X Y → Tbl Y L val (fun k => decide (sn = -1 ∨ val k L - val k 0 = sn)) r → ∃ Y', Ev T_X10_laysFits 4 [some (mR (some 188)), some (mI (nI c)), some (mI (nI (4 + r))), none] [] (Y, J) = some (some (mI (nI (c + cnt (fun k => decide (sn = -1 ∨ val k L - val k 0 = sn)) r n))), (Y', J)) ∧ KeY X Y' ∧ Tbl Y' L val (fun k => decide (sn = -1 ∨ val k L - val k 0 = sn)) 37 := by
  have nb1 : vp_nar .boolean 1 = 1 := rfl
  have nb0 : vp_nar .boolean 0 = 0 := rfl
  intro n
  induction n with
  | zero =>
    intro r c Y hr k tb
    have : r = 37 := by omega
    subst this
    refine ⟨Y, ?_, k, tb⟩
    rw [E_X10_laysFits_4, if_pos (show (40 : Int32) < nI (4 + 37) by decide)]
    rfl
  | succ n ih =>
    intro r c Y hr k tb
    obtain ⟨Y1, a1, a2, a3, a4⟩ := lo.go xo k (show r < 37 by omega)
    have y37 : Y1 188 37 = sn := by rw [a2.2.1 37 (by decide), xo 188 (by decide)]; exact hs
    have ce : cnt (fun k => decide (sn = -1 ∨ val k L - val k 0 = sn)) r (n + 1) = (if decide (sn = -1 ∨ val r L - val r 0 = sn) = true then 1 else 0) + cnt (fun k => decide (sn = -1 ∨ val k L - val k 0 = sn)) (r + 1) n := rfl
    have t1 : ∀ v, Tbl (up2 Y1 207 (4 + r) v) L val (fun k => decide (sn = -1 ∨ val k L - val k 0 = sn)) r ∧ ∀ p, p < L → up2 Y1 207 (4 + r) v 206 (12 * (4 + r) + p) = val r (p + 1) - val r p := fun v => by
      refine ⟨fun r' hr' => ⟨?_, fun p hp => ?_⟩, fun p hp => ?_⟩
      · rw [up2_k _ _ _ (show 4 + r' ≠ 4 + r by omega), a3]
        exact (tb r' hr').1
      · rw [up2_o _ _ _ (by decide), a4 _ (by omega), if_neg (by omega)]
        exact (tb r' hr').2 p hp
      · rw [up2_o _ _ _ (by decide), a4 _ (by omega), if_pos (by omega), show 12 * (4 + r) + p - 12 * (4 + r) = p by omega]
    have kk : ∀ v, KeY X (up2 Y1 207 (4 + r) v) := fun v => a2.trans ⟨fun x _ _ _ _ _ _ _ e => up2_o _ _ _ e, fun j _ => by rw [up2_o _ _ _ (by decide)], fun j _ => by rw [up2_o _ _ _ (by decide)]⟩
    have nxt' : ∀ v, v = (if decide (sn = -1 ∨ val r L - val r 0 = sn) = true then (1 : Int32) else 0) → Tbl (up2 Y1 207 (4 + r) v) L val (fun k => decide (sn = -1 ∨ val k L - val k 0 = sn)) (r + 1) := fun v hv r' hr' => by
      by_cases w : r' = r
      · subst w
        exact ⟨by rw [up2_s]; exact hv, (t1 v).2⟩
      · exact (t1 v).1 r' (by omega)
    have l207 : ∀ v, ld (up2 Y1 207 (4 + r) v, J) 12 207 (nI (4 + r)) = some v := fun v => by
      rw [ldx rl.s42 (show 4 + r < 41 by omega) (by decide) rfl, up2_s]
    rw [E_X10_laysFits_4, if_neg (show ¬ (40 : Int32) < nI (4 + r) from nI_nlt (a := 40) (by omega) (by omega)), ce]
    simp only [rl.kt, if_true, a1, Option.bind_some, asI_I, rl.f42, rl.fi, y37, nb1, nb0, stx rl.s42 (show 4 + r < 41 by omega) (by decide) rfl, l207, w_flag, nI_1]
    by_cases s1 : sn = -1
    · have d : decide (sn = -1 ∨ val r L - val r 0 = sn) = true := by simp [s1]
      rw [if_pos s1, if_neg i10, nI_1, if_pos d]
      obtain ⟨Y', b1, b2, b3⟩ := ih (r + 1) (c + 1) (up2 Y1 207 (4 + r) 1) (by omega) (kk 1) (nxt' 1 (by rw [if_pos d]))
      exact ⟨Y', by rw [show 4 + r + 1 = 4 + (r + 1) by omega, b1, Nat.add_assoc], b2, b3⟩
    · rw [if_neg s1]
      by_cases s2 : val r L - val r 0 = sn
      · have d : decide (sn = -1 ∨ val r L - val r 0 = sn) = true := by simp [s2]
        rw [if_pos s2, if_neg i10, nI_1, if_pos d]
        obtain ⟨Y', b1, b2, b3⟩ := ih (r + 1) (c + 1) (up2 Y1 207 (4 + r) 1) (by omega) (kk 1) (nxt' 1 (by rw [if_pos d]))
        exact ⟨Y', by rw [show 4 + r + 1 = 4 + (r + 1) by omega, b1, Nat.add_assoc], b2, b3⟩
      · have d : ¬ decide (sn = -1 ∨ val r L - val r 0 = sn) = true := by simp [s1, s2]
        rw [if_neg s2]
        try rw [if_pos rfl]
        rw [Int32.add_zero, if_neg d]
        obtain ⟨Y', b1, b2, b3⟩ := ih (r + 1) c (up2 Y1 207 (4 + r) 0) (by omega) (kk 0) (nxt' 0 (by rw [if_neg d]))
        exact ⟨Y', by rw [show 4 + r + 1 = 4 + (r + 1) by omega, b1, Nat.zero_add], b2, b3⟩
theorem w_laysFits {I X : MI} {J : MJ} {L : Nat} {val : Nat → Nat → Int32} (rl : RefL J) (lo : RLo I J L val) (xo : ∀ x, (x < 70 ∨ 134 ≤ x) → X x = I x) (L12 : L ≤ 12) {sn : Int32} (hs : I 188 37 = sn) : ∃ Y', M_X10_laysFits [mR (some 188)] (X, J) = some (some (mI (nI (cnt (fun k => decide (sn = -1 ∨ val k L - val k 0 = sn)) 0 37))), (Y', J)) ∧ KeY X Y' ∧ Tbl Y' L val (fun k => decide (sn = -1 ∨ val k L - val k 0 = sn)) 37 := by
  obtain ⟨Y', b1, b2, b3⟩ := fits_loop rl lo xo L12 hs 37 0 0 X (by omega) (KeY.refl _) (fun r' h => by omega)
  rw [Nat.zero_add] at b1
  exact ⟨Y', by rw [E_X10_laysFits]; exact b1, b2, b3⟩
theorem fitB_all {I : MI} {L : Nat} {val : Nat → Nat → Int32} {sn : Int32} (tab : ∀ r, r < 37 → (∀ p, p < L → allI I L (96 + r) p = val r (p + 1) - val r p) ∧ allI I L 133 r = val r L - val r 0) (hs : I 69 2 = sn) {r : Nat} (hr : r < 37) : fitB (allI I L) 69 r = decide (sn = -1 ∨ val r L - val r 0 = sn) := by
  unfold fitB
  have e1 : allI I L 69 2 = sn := by rw [all_out I L 69 (by decide)]; exact hs
  have e2 : allI I L (69 + 64) r = val r L - val r 0 := (tab r hr).2
  rw [e1, e2]
theorem P_fits {I : MI} {J : MJ} {T B0 : Nat} (h : St I J T B0) (h30 : T + 10001 ≤ 1000000000) (x : Int32) : Pair I J T B0 (M_X9_fits [mR (some 0), mI x]) (M_X10_fits [mR (some 188), mI x]) := by
  obtain ⟨L, L12, l1, l2, l3, alt⟩ := trc_pre h h30
  have rl := h.1.2
  have uE := u_fitsQ h.1.1 I x l1 L12
  by_cases L0 : L = 0
  · rw [if_pos L0] at uE
    refine Pair.ask h h30 uE (w := -1) ?_ rfl
    rw [E_X10_fits]
    simp only [rl.fi, l2, L0, Option.bind_some, show nI 0 = 0 from rfl, if_true]
  · rw [if_neg L0] at uE
    obtain ⟨val, tab, _, lo⟩ := alt.resolve_left L0
    have ln : ¬ nI L = 0 := fun z => L0 ((nI_eq (by omega) (by omega)).mp (z.trans nI_0.symm))
    generalize hsn : I 188 37 = sn at l3
    have fb : ∀ r, r < 37 → fitB (allI I L) 69 r = decide (sn = -1 ∨ val r L - val r 0 = sn) := fun r hr => fitB_all tab l3 hr
    have y36 : allI I L 188 36 = nI L := by rw [all_out I L 188 (by decide)]; exact l2
    by_cases neg : (-1 : Int32) ≤ x
    · obtain ⟨Y', b1, b2, b3⟩ := w_laysFits rl lo (all_out I L) L12 hsn
      have rE : M_X10_fits [mR (some 188), mI x] (allI I L, J) = if x = -1 then some (some (mI (nI (cnt (fun k => decide (sn = -1 ∨ val k L - val k 0 = sn)) 0 37))), (Y', J)) else Ev T_X10_fits 31 [some (mR (some 188)), none, none, some (mI x), some (mI 4)] [] (Y', J) := by
        rw [E_X10_fits]
        simp only [rl.fi, y36, Option.bind_some, if_neg ln, if_pos neg, rl.kt, if_true, b1, asI_I]
      refine ⟨lp_fitting (allI I L) 69 x 37 0 0, _, Y', J, uE, ?_, h.key h30 (all_out I L) b2⟩
      rw [rE]
      by_cases x1 : x = -1
      · rw [if_pos x1]
        have cl : ∀ n r c, r + n = 37 → c ≤ r → lp_fitting (allI I L) 69 x n r (nI c) = nI (c + cnt (fun k => decide (sn = -1 ∨ val k L - val k 0 = sn)) r n) := by
          intro n
          induction n with
          | zero =>
            intro r c _ _
            show (if x = -1 then nI c else -1) = nI (c + 0)
            rw [if_pos x1]
            rfl
          | succ n ih =>
            intro r c hr hc
            have e : cnt (fun k => decide (sn = -1 ∨ val k L - val k 0 = sn)) r (n + 1) = (if decide (sn = -1 ∨ val r L - val r 0 = sn) = true then 1 else 0) + cnt (fun k => decide (sn = -1 ∨ val k L - val k 0 = sn)) (r + 1) n := rfl
            have e2 : lp_fitting (allI I L) 69 x (n + 1) r (nI c) = if fitB (allI I L) 69 r = true then (if nI c = x then nI (4 + r) else lp_fitting (allI I L) 69 x n (r + 1) (nI c + 1)) else lp_fitting (allI I L) 69 x n (r + 1) (nI c) := rfl
            rw [e, e2, fb r (by omega)]
            by_cases d : decide (sn = -1 ∨ val r L - val r 0 = sn) = true
            · rw [if_pos d, if_pos d, if_neg (by rw [x1]; exact nI_m1 (show c < 2 ^ 31 by omega)), nI_1, ih (r + 1) (c + 1) (by omega) (by omega), Nat.add_assoc]
            · rw [if_neg d, if_neg d, ih (r + 1) c (by omega) (by omega), Nat.zero_add]
        have := cl 37 0 0 rfl (Nat.le_refl _)
        rw [show (nI 0) = 0 from rfl, Nat.zero_add] at this
        rw [this]
      · rw [if_neg x1]
        have xn : ¬ x < 0 := by
          intro z
          apply x1
          apply Int32.toInt_inj.mp
          rw [Int32.le_iff_toInt_le] at neg
          rw [Int32.lt_iff_toInt_lt] at z
          have e1 : (-1 : Int32).toInt = -1 := rfl
          have e0 : (0 : Int32).toInt = 0 := rfl
          omega
        obtain ⟨kk, k31, hk⟩ := nI_of xn
        subst hk
        have cl : ∀ n r c, r + n = 37 → c ≤ kk → Ev T_X10_fits 31 [some (mR (some 188)), none, none, some (mI (nI (kk - c))), some (mI (nI (4 + r)))] [] (Y', J) = some (some (mI (lp_fitting (allI I L) 69 (nI kk) n r (nI c))), (Y', J)) := by
          intro n
          induction n with
          | zero =>
            intro r c hr hc
            rw [E_X10_fits_31, if_pos (show (40 : Int32) < nI (4 + r) from nI_lt (a := 40) (by omega) (by omega))]
            show _ = some (some (mI (if nI kk = -1 then nI c else -1)), (Y', J))
            rw [if_neg x1]
          | succ n ih =>
            intro r c hr hc
            have e2 : lp_fitting (allI I L) 69 (nI kk) (n + 1) r (nI c) = if fitB (allI I L) 69 r = true then (if nI c = nI kk then nI (4 + r) else lp_fitting (allI I L) 69 (nI kk) n (r + 1) (nI c + 1)) else lp_fitting (allI I L) 69 (nI kk) n (r + 1) (nI c) := rfl
            rw [e2, fb r (by omega), E_X10_fits_31, if_neg (show ¬ (40 : Int32) < nI (4 + r) from nI_nlt (a := 40) (by omega) (by omega))]
            simp only [rl.f42, Option.bind_some, ldx rl.s42 (show 4 + r < 41 by omega) (by decide) rfl, (b3 r (by omega)).1, nI_1]
            by_cases d : decide (sn = -1 ∨ val r L - val r 0 = sn) = true
            · rw [if_pos d, if_neg i10, if_pos d]
              by_cases z : c = kk
              · rw [if_pos (show nI (kk - c) = 0 by rw [z, Nat.sub_self]; rfl), if_pos (show nI c = nI kk by rw [z])]
              · have lm1 : nI (kk - c) + (-1) = nI (kk - (c + 1)) := by
                  have : nI (kk - c) = nI (kk - (c + 1)) + 1 := by rw [nI_1, show kk - (c + 1) + 1 = kk - c by omega]
                  rw [this, Int32.add_assoc, show (1 : Int32) + (-1) = 0 by decide, Int32.add_zero]
                rw [if_neg (fun w => z ((nI_eq (by omega) (by omega)).mp w)), if_neg (fun w => by have := (nI_eq (by omega) (by omega)).mp (w.trans nI_0.symm); omega), lm1, show 4 + r + 1 = 4 + (r + 1) by omega]
                exact ih (r + 1) (c + 1) (by omega) (by omega)
            · rw [if_neg d, if_pos rfl, if_neg d, show 4 + r + 1 = 4 + (r + 1) by omega]
              exact ih (r + 1) c (by omega) hc
        have := cl 37 0 0 rfl (Nat.zero_le _)
        rw [Nat.sub_zero, show (nI 0) = 0 from rfl] at this
        exact this
    · have cl : ∀ n r c, r + n = 37 → c ≤ r → lp_fitting (allI I L) 69 x n r (nI c) = -1 := by
        have x1 : ¬ x = -1 := fun z => neg (by rw [z]; exact Int32.le_refl _)
        intro n
        induction n with
        | zero =>
          intro r c _ _
          show (if x = -1 then nI c else -1) = -1
          rw [if_neg x1]
        | succ n ih =>
          intro r c hr hc
          have e2 : lp_fitting (allI I L) 69 x (n + 1) r (nI c) = if fitB (allI I L) 69 r = true then (if nI c = x then nI (4 + r) else lp_fitting (allI I L) 69 x n (r + 1) (nI c + 1)) else lp_fitting (allI I L) 69 x n (r + 1) (nI c) := rfl
          have nx : ¬ nI c = x := fun z => neg (by
            rw [← z, Int32.le_iff_toInt_le, nI_toInt (by omega)]
            have e1 : (-1 : Int32).toInt = -1 := rfl
            omega)
          rw [e2, if_neg nx, nI_1, ih (r + 1) (c + 1) (by omega) (by omega), ih (r + 1) c (by omega) (by omega), ite_self]
      have := cl 37 0 0 rfl (Nat.le_refl _)
      rw [show (nI 0) = 0 from rfl] at this
      rw [this] at uE
      refine ⟨-1, _, allI I L, J, uE, ?_, h.key h30 (all_out I L) (KeY.refl _)⟩
      rw [E_X10_fits]
      simp only [rl.fi, y36, Option.bind_some, if_neg ln, if_neg neg]
end
section
/-! The telling path, on both sides. -/
/-- how many fit and are alike by path p to room r -/
def alk (val : Nat → Nat → Int32) (ft : Nat → Bool) (p r : Nat) : Nat := cnt (fun k => ft k && decide (val k (p + 1) - val k p = val r (p + 1) - val r p)) 0 37
def lp_mst (val : Nat → Nat → Int32) (ft : Nat → Bool) (p : Nat) : Nat → Nat → Nat → Nat
  | 0, _, m => m
  | f + 1, k, m => lp_mst val ft p f (k + 1) (if ft k = true then max m (alk val ft p k) else m)
def mst (val : Nat → Nat → Int32) (ft : Nat → Bool) (p : Nat) : Nat := lp_mst val ft p 37 0 0
theorem alk_le (val : Nat → Nat → Int32) (ft : Nat → Bool) (p r : Nat) : alk val ft p r ≤ 37 := cnt_le _ _ _
theorem mst_le (val : Nat → Nat → Int32) (ft : Nat → Bool) (p : Nat) : mst val ft p ≤ 37 := by
  have : ∀ f k m, m ≤ 37 → lp_mst val ft p f k m ≤ 37 := by
    intro f
    induction f with
    | zero => intro k m h; exact h
    | succ f ih =>
      intro k m h
      apply ih
      have := alk_le val ft p k
      split <;> omega
  exact this 37 0 0 (by omega)
theorem lp_mst_ge (val : Nat → Nat → Int32) (ft : Nat → Bool) (p : Nat) : ∀ f k m, m ≤ lp_mst val ft p f k m
  | 0, k, m => Nat.le_refl _
  | f + 1, k, m => by
    refine Nat.le_trans ?_ (lp_mst_ge val ft p f (k + 1) _)
    split <;> omega
theorem mst_pos {val : Nat → Nat → Int32} {ft : Nat → Bool} (p : Nat) {r : Nat} (hr : r < 37) (hf : ft r = true) : 0 < mst val ft p := by
  have : ∀ f k m, k ≤ r → r < k + f → 0 < lp_mst val ft p f k m := by
    intro f
    induction f with
    | zero => intro k m h1 h2; omega
    | succ f ih =>
      intro k m h1 h2
      show 0 < lp_mst val ft p f (k + 1) (if ft k = true then max m (alk val ft p k) else m)
      by_cases z : k = r
      · subst z
        rw [if_pos hf]
        have a : 0 < alk val ft p k := cnt_pos (i := k) (Nat.zero_le _) (by omega) (by simp [hf])
        have := lp_mst_ge val ft p f (k + 1) (max m (alk val ft p k))
        omega
      · exact ih (k + 1) _ (by omega) (by omega)
  exact this 37 0 0 (Nat.zero_le _) (by omega)
theorem mst_zero {val : Nat → Nat → Int32} {ft : Nat → Bool} (p : Nat) (hf : ∀ r, r < 37 → ft r = false) : mst val ft p = 0 := by
  have : ∀ f k, k + f = 37 → lp_mst val ft p f k 0 = 0 := by
    intro f
    induction f with
    | zero => intro k _; rfl
    | succ f ih =>
      intro k hk
      show lp_mst val ft p f (k + 1) (if ft k = true then max 0 (alk val ft p k) else 0) = 0
      rw [hf k (by omega), if_neg (by decide)]
      exact ih (k + 1) (by omega)
  exact this 37 0 rfl
theorem mostL_q {I : MI} {L : Nat} {val : Nat → Nat → Int32} {ft : Nat → Bool} (tab : ∀ r, r < 37 → (∀ p, p < L → allI I L (96 + r) p = val r (p + 1) - val r p) ∧ allI I L 133 r = val r L - val r 0) (fb : ∀ r, r < 37 → fitB (allI I L) 69 r = ft r) {p : Nat} (hp : p < L) : mostL (allI I L) 69 p = mst val ft p := by
  have al : ∀ r, r < 37 → alike (allI I L) 69 p r = alk val ft p r := fun r hr => by
    unfold alike alk
    have e : ∀ k, k < 37 → allI I L (69 + 27 + k) p = val k (p + 1) - val k p := fun k hk => (tab k hk).1 p hp
    exact cnt_cong (fun k _ hk => by rw [fb k (by omega), e k (by omega), e r hr])
  have : ∀ f k m, k + f = 37 → lp_mostLeft (allI I L) 69 p f k m = lp_mst val ft p f k m := by
    intro f
    induction f with
    | zero => intro k m _; rfl
    | succ f ih =>
      intro k m hk
      show lp_mostLeft (allI I L) 69 p f (k + 1) (if fitB (allI I L) 69 k = true then max m (alike (allI I L) 69 p k) else m) = lp_mst val ft p f (k + 1) (if ft k = true then max m (alk val ft p k) else m)
      rw [fb k (by omega), al k (by omega)]
      exact ih (k + 1) _ (by omega)
  exact this 37 0 0 rfl
theorem w_mostBy {J : MJ} (rl : RefL J) {Y : MI} {L : Nat} {val : Nat → Nat → Int32} {ft : Nat → Bool} (tb : Tbl Y L val ft 37) (L12 : L ≤ 12) {p : Nat} (hp : p < L) : M_X10_mostBy [mR (some 188), mI (nI p)] (Y, J) = some (some (mI (nI (mst val ft p))), (Y, J)) := by
  have l207 : ∀ r, r < 37 → ld (Y, J) 12 207 (nI (4 + r)) = some (if ft r = true then 1 else 0) := fun r hr => by
    rw [ldx rl.s42 (show 4 + r < 41 by omega) (by decide) rfl, (tb r hr).1]
  have l206 : ∀ r, r < 37 → ld (Y, J) 11 206 ((12 * nI (4 + r)) + nI p) = some (val r (p + 1) - val r p) := fun r hr => by
    have e : (12 : Int32) * nI (4 + r) + nI p = nI (12 * (4 + r) + p) := by rw [show (12 : Int32) = nI 12 from rfl, nI_mul, nI_add]
    rw [ldx rl.s41 (show 12 * (4 + r) + p < 492 by omega) (by decide) e, (tb r hr).2 p hp]
  have inn : ∀ (a : Nat) (m : Nat), a < 37 → ∀ n b c, b + n = 37 → Ev T_X10_mostBy 16 [some (mR (some 188)), some (mI (nI p)), some (mI (nI m)), some (mI (nI (4 + a))), some (mI (nI c)), some (mI (nI (4 + b)))] [] (Y, J) = Ev T_X10_mostBy 16 [some (mR (some 188)), some (mI (nI p)), some (mI (nI m)), some (mI (nI (4 + a))), some (mI (nI (c + if ft a = true then cnt (fun k => ft k && decide (val k (p + 1) - val k p = val a (p + 1) - val a p)) b n else 0))), some (mI (nI (4 + 37)))] [] (Y, J) := by
    intro a m ha n
    induction n with
    | zero =>
      intro b c hb
      have : b = 37 := by omega
      subst this
      have e : (if ft a = true then cnt (fun k => ft k && decide (val k (p + 1) - val k p = val a (p + 1) - val a p)) 37 0 else 0) = 0 := by
        split <;> rfl
      rw [e]
      rfl
    | succ n ih =>
      intro b c hb
      have ce : cnt (fun k => ft k && decide (val k (p + 1) - val k p = val a (p + 1) - val a p)) b (n + 1) = (if (ft b && decide (val b (p + 1) - val b p = val a (p + 1) - val a p)) = true then 1 else 0) + cnt (fun k => ft k && decide (val k (p + 1) - val k p = val a (p + 1) - val a p)) (b + 1) n := rfl
      rw [E_X10_mostBy_16, if_neg (show ¬ (40 : Int32) < nI (4 + b) from nI_nlt (a := 40) (by omega) (by omega)), ce]
      have n0 : ¬ ¬ (0 : Int32) = 0 := fun z => z rfl
      simp only [rl.f42, rl.f41, Option.bind_some, l207 a ha, l207 b (by omega), l206 a ha, l206 b (by omega), w_flag, asI_I, nI_1, if_true, if_neg i10, Int32.add_zero]
      rw [show 4 + b + 1 = 4 + (b + 1) by omega]
      by_cases fa : ft a = true
      · rw [if_pos fa, if_neg i10, if_pos fa]
        by_cases fb : ft b = true
        · rw [if_pos fb, if_neg i10]
          by_cases q : val a (p + 1) - val a p = val b (p + 1) - val b p
          · rw [if_pos q, ih (b + 1) (c + 1) (by omega), if_pos fa, if_pos (show (ft b && decide (val b (p + 1) - val b p = val a (p + 1) - val a p)) = true by simp [fb, q]), Nat.add_assoc]
          · rw [if_neg q, ih (b + 1) c (by omega), if_pos fa, if_neg (show ¬ (ft b && decide (val b (p + 1) - val b p = val a (p + 1) - val a p)) = true by rw [fb]; simp only [Bool.true_and, decide_eq_true_eq]; exact fun z => q z.symm), Nat.zero_add]
        · rw [if_neg fb, if_pos rfl, ih (b + 1) c (by omega), if_pos fa, if_neg (show ¬ (ft b && decide (val b (p + 1) - val b p = val a (p + 1) - val a p)) = true by simp [fb]), Nat.zero_add]
      · rw [if_neg fa, if_pos rfl, if_neg fa, ih (b + 1) c (by omega), if_neg fa]
  have out : ∀ n a m, a + n = 37 → m ≤ 37 → Ev T_X10_mostBy 4 [some (mR (some 188)), some (mI (nI p)), some (mI (nI m)), some (mI (nI (4 + a))), none, none] [] (Y, J) = some (some (mI (nI (lp_mst val ft p n a m))), (Y, J)) := by
    intro n
    induction n with
    | zero =>
      intro a m ha _
      rw [E_X10_mostBy_4, if_pos (show (40 : Int32) < nI (4 + a) from nI_lt (a := 40) (by omega) (by omega))]
      rfl
    | succ n ih =>
      intro a m ha hm
      have i1 := inn a m (by omega) 37 0 0 rfl
      rw [show (nI 0) = 0 from rfl, show nI (4 + 0) = 4 from rfl, Nat.zero_add] at i1
      rw [E_X10_mostBy_4, if_neg (show ¬ (40 : Int32) < nI (4 + a) from nI_nlt (a := 40) (by omega) (by omega)), i1, E_X10_mostBy_16, if_pos (show (40 : Int32) < nI (4 + 37) by decide), nI_1, show 4 + a + 1 = 4 + (a + 1) by omega]
      have al := alk_le val ft p a
      have fold : cnt (fun k => ft k && decide (val k (p + 1) - val k p = val a (p + 1) - val a p)) 0 37 = alk val ft p a := rfl
      rw [fold]
      show _ = some (some (mI (nI (lp_mst val ft p n (a + 1) (if ft a = true then max m (alk val ft p a) else m)))), (Y, J))
      by_cases fa : ft a = true
      · rw [if_pos fa, if_pos fa]
        by_cases q : alk val ft p a ≤ m
        · rw [if_pos (nI_le q (by omega)), show max m (alk val ft p a) = m by omega]
          exact ih (a + 1) m (by omega) hm
        · rw [if_neg (nI_ge (by omega) (by omega)), show max m (alk val ft p a) = alk val ft p a by omega]
          exact ih (a + 1) _ (by omega) (by omega)
      · rw [if_neg fa, if_neg fa, if_pos (nI_le (Nat.zero_le _) (by omega))]
        exact ih (a + 1) m (by omega) hm
  rw [E_X10_mostBy]
  have := out 37 0 0 rfl (by omega)
  rw [show (nI 0) = 0 from rfl, show nI (4 + 0) = 4 from rfl] at this
  exact this
theorem P_tells {I : MI} {J : MJ} {T B0 : Nat} (h : St I J T B0) (h30 : T + 10001 ≤ 1000000000) (x : Int32) : Pair I J T B0 (M_X9_tells [mR (some 0), mI x]) (M_X10_tells [mR (some 188), mI x]) := by
  obtain ⟨L, L12, l1, l2, l3, alt⟩ := trc_pre h h30
  have rl := h.1.2
  have uE := u_tells h.1.1 I x l1 L12
  have isn := fun s => w_isIn x 0 1 s (show (0 : Int64) = Int32.toInt64 0 from rfl) (show (1 : Int64) = Int32.toInt64 1 from rfl)
  by_cases L0 : L = 0
  · rw [if_pos (Or.inr (Or.inr L0))] at uE
    refine Pair.ask h h30 uE (w := -1) ?_ rfl
    rw [E_X10_tells]
    simp only [rl.fi, l2, L0, Option.bind_some, show nI 0 = 0 from rfl, if_true]
  · have ln : ¬ nI L = 0 := fun z => L0 ((nI_eq (by omega) (by omega)).mp (z.trans nI_0.symm))
    by_cases a : x < 0
    · rw [if_pos (Or.inl a)] at uE
      refine Pair.ask h h30 uE (w := -1) ?_ rfl
      rw [E_X10_tells]
      simp only [rl.fi, l2, Option.bind_some, if_neg ln, isn, asI_I, if_pos a, if_true]
    by_cases b : (1 : Int32) < x
    · rw [if_pos (Or.inr (Or.inl b))] at uE
      refine Pair.ask h h30 uE (w := -1) ?_ rfl
      rw [E_X10_tells]
      simp only [rl.fi, l2, Option.bind_some, if_neg ln, isn, asI_I, if_neg a, if_pos b, if_true]
    rw [if_neg (fun z => z.elim a (fun z => z.elim b L0))] at uE
    obtain ⟨val, tab, _, lo⟩ := alt.resolve_left L0
    generalize hsn : I 188 37 = sn at l3
    have fb : ∀ r, r < 37 → fitB (allI I L) 69 r = decide (sn = -1 ∨ val r L - val r 0 = sn) := fun r hr => fitB_all tab l3 hr
    obtain ⟨Y', b1, b2, b3⟩ := w_laysFits rl lo (all_out I L) L12 hsn
    generalize hft : (fun k => decide (sn = -1 ∨ val k L - val k 0 = sn)) = ft at b1 b3
    have fb' : ∀ r, r < 37 → fitB (allI I L) 69 r = ft r := fun r hr => by rw [fb r hr, ← hft]
    have y36 : allI I L 188 36 = nI L := by rw [all_out I L 188 (by decide)]; exact l2
    have y36' : Y' 188 36 = nI L := by rw [b2.2.1 36 (by decide)]; exact y36
    have x01 : (if x = 1 then (1 : Int32) else 0) = 0 ↔ x = 0 := by
      have xle : x = 0 ∨ x = 1 := by
        have e0 : (0 : Int32).toInt = 0 := rfl
        have e1 : (1 : Int32).toInt = 1 := rfl
        rw [Int32.lt_iff_toInt_lt] at a b
        rcases (show x.toInt = 0 ∨ x.toInt = 1 by omega) with z | z
        · exact Or.inl (Int32.toInt_inj.mp z)
        · exact Or.inr (Int32.toInt_inj.mp z)
      rcases xle with z | z
      · subst z; simp
      · subst z; simp
    have cl37 := cnt_le ft 37 0
    have rE : M_X10_tells [mR (some 188), mI x] (allI I L, J) = if nI (cnt ft 0 37) = 0 then some (some (mI (-1)), (Y', J)) else Ev T_X10_tells 30 [some (mR (some 188)), some (mI x), some (mI 0), some (mI 1)] [] (Y', J) := by
      rw [E_X10_tells]
      simp only [rl.fi, y36, Option.bind_some, if_neg ln, isn, asI_I, if_neg a, if_neg b, if_neg i10, rl.kt, if_true, b1]
    have mq : ∀ p, p < L → mostL (allI I L) 69 p = mst val ft p := fun p hp => mostL_q tab fb' hp
    refine ⟨_, _, Y', J, uE, ?_, h.key h30 (all_out I L) b2⟩
    rw [rE]
    by_cases c0 : cnt ft 0 37 = 0
    · rw [if_pos (by rw [c0]; rfl)]
      have fz : ∀ r, r < 37 → ft r = false := fun r hr => cnt_z c0 r (Nat.zero_le _) (by omega)
      have cl : ∀ f k, k + f = 12 → lp_telling (allI I L) 69 L f k (-1) 38 = (-1, 38) := by
        intro f
        induction f with
        | zero => intro k _; rfl
        | succ f ih =>
          intro k hk
          show (if L ≤ k then ((-1 : Int32), (38 : Int32)) else if mostL (allI I L) 69 k = 0 then lp_telling (allI I L) 69 L f (k + 1) (-1) 38 else _) = _
          by_cases z : L ≤ k
          · rw [if_pos z]
          · rw [if_neg z, mq k (by omega), if_pos (mst_zero k fz)]
            exact ih (k + 1) (by omega)
      unfold q_X6_telling
      rw [cl 12 0 rfl, if_pos rfl]
    · rw [if_neg (fun z => c0 ((nI_eq (by omega) (by omega)).mp (z.trans nI_0.symm)))]
      obtain ⟨r0, hr0, fr0⟩ : ∃ r0, r0 < 37 ∧ ft r0 = true := by
        refine Classical.byContradiction (fun no => c0 (cnt_zero (fun r _ hr => ?_)))
        cases q : ft r with
        | false => rfl
        | true => exact absurd ⟨r, by omega, q⟩ no
      have mp : ∀ p, 0 < mst val ft p := fun p => mst_pos p hr0 fr0
      have cl : ∀ f k bst, k + f = 12 → bst < L → bst < k → Ev T_X10_tells 30 [some (mR (some 188)), some (mI x), some (mI (nI bst)), some (mI (nI k))] [] (Y', J) = some (some (mI (if x = 0 then (lp_telling (allI I L) 69 L f k (nI bst) (nI (mst val ft bst))).1 else (lp_telling (allI I L) 69 L f k (nI bst) (nI (mst val ft bst))).2)), (Y', J)) ∧ ¬ (lp_telling (allI I L) 69 L f k (nI bst) (nI (mst val ft bst))).1 = -1 := by
        have fin : ∀ k bst, L ≤ k → bst < L → k ≤ 12 → Ev T_X10_tells 30 [some (mR (some 188)), some (mI x), some (mI (nI bst)), some (mI (nI k))] [] (Y', J) = some (some (mI (if x = 0 then nI bst else nI (mst val ft bst))), (Y', J)) := fun k bst hk hb hk12 => by
          rw [E_X10_tells_30]
          simp only [rl.fi, y36', Option.bind_some, if_pos (nI_le hk (by omega)), rl.kt, if_true, w_mostBy rl b3 L12 hb, asI_I]
          by_cases z : x = 0
          · rw [if_pos z, if_pos z]
          · rw [if_neg z, if_neg z]
        intro f
        induction f with
        | zero =>
          intro k bst hk hb hbk
          exact ⟨fin k bst (by omega) hb (by omega), nI_m1 (show bst < 2 ^ 31 by omega)⟩
        | succ f ih =>
          intro k bst hk hb hbk
          have e : lp_telling (allI I L) 69 L (f + 1) k (nI bst) (nI (mst val ft bst)) = if L ≤ k then (nI bst, nI (mst val ft bst)) else if mostL (allI I L) 69 k = 0 then lp_telling (allI I L) 69 L f (k + 1) (nI bst) (nI (mst val ft bst)) else if nI (mst val ft bst) ≤ nI (mostL (allI I L) 69 k) then lp_telling (allI I L) 69 L f (k + 1) (nI bst) (nI (mst val ft bst)) else lp_telling (allI I L) 69 L f (k + 1) (nI k) (nI (mostL (allI I L) 69 k)) := rfl
          rw [e]
          by_cases z : L ≤ k
          · rw [if_pos z]
            exact ⟨fin k bst z hb (by omega), nI_m1 (show bst < 2 ^ 31 by omega)⟩
          · have hkL : k < L := by omega
            have m1 := mp k
            rw [if_neg z, mq k hkL, if_neg (show ¬ mst val ft k = 0 by omega), E_X10_tells_30]
            simp only [rl.fi, y36', Option.bind_some, if_neg (nI_ge hkL (by omega)), rl.kt, if_true, w_mostBy rl b3 L12 hkL, w_mostBy rl b3 L12 hb, asI_I, nI_1]
            by_cases q : nI (mst val ft bst) ≤ nI (mst val ft k)
            · rw [if_pos q, if_pos q]
              exact ih (k + 1) bst (by omega) hb (by omega)
            · rw [if_neg q, if_neg q]
              exact ih (k + 1) k (by omega) hkL (by omega)
      obtain ⟨r1, r2⟩ := cl 11 1 0 rfl (by omega) (by omega)
      have m0 := mp 0
      have ml := mst_le val ft 0
      have e0 : lp_telling (allI I L) 69 L 12 0 (-1) 38 = lp_telling (allI I L) 69 L 11 1 (nI 0) (nI (mst val ft 0)) := by
        show (if L ≤ 0 then ((-1 : Int32), (38 : Int32)) else if mostL (allI I L) 69 0 = 0 then lp_telling (allI I L) 69 L 11 1 (-1) 38 else if (38 : Int32) ≤ nI (mostL (allI I L) 69 0) then lp_telling (allI I L) 69 L 11 1 (-1) 38 else lp_telling (allI I L) 69 L 11 1 (nI 0) (nI (mostL (allI I L) 69 0))) = _
        rw [if_neg (by omega), mq 0 (by omega), if_neg (by omega), if_neg (show ¬ (38 : Int32) ≤ nI (mst val ft 0) from nI_ge (b := 38) (by omega) (by decide))]
      unfold q_X6_telling
      rw [e0, if_neg r2]
      rw [show (nI 0) = 0 from rfl, show (nI 1) = 1 from rfl] at r1
      rw [r1]
      rw [show (nI 0) = 0 from rfl]
      by_cases z : x = 0
      · rw [if_pos z, if_pos (x01.mpr z)]
      · rw [if_neg z, if_neg (fun q => z (x01.mp q))]
end

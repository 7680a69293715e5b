/-! The paths of a trace by a room: the reference's side. -/
/-- the memory that a run begins with -/
def vst (B X : MemV) (r : Nat) : MemV := lm (gV_X1_copyFrom B X) (nI (4 + r))
theorem vst_ok {U : NodV} {V Vc : MemV} {H : OneV} {W : WkV} {n vol t T r : Nat} (i : Inv U V H W n vol t T (fun _ => 0)) (C : CntI V) (vc : VEq Vc V) (X : MemV) (hr : r < 37) : (Inv U (vst (gV_X1_keepMountsAlone Vc) X r) H00 W00 n vol t T (fun _ => 0) ∧ CntI (vst (gV_X1_keepMountsAlone Vc) X r)) ∧ (∀ {D D' : RowV}, Rel none U V H W D n → (∀ e, e < 128 → D' (701 + 9 * e + 0) = if e < 64 ∧ ¬ V 1 e = 0 ∧ kB Vc e = true then 1 else 0) → D' 3 = nI (4 + r) → (∀ k, k < 6 → D' (11 + k) = -1) → (∀ k, k < 4 → D' (17 + 96 * k + 0) = 0) → (∀ j, (∀ e, e < 128 → j ≠ 701 + 9 * e + 0) → j ≠ 3 → (j < 11 ∨ 17 ≤ j) → (∀ k, k < 4 → j ≠ 17 + 96 * k + 0) → D' j = D j) → Rel none U (vst (gV_X1_keepMountsAlone Vc) X r) H00 W00 D' n) ∧ vst (gV_X1_keepMountsAlone Vc) X r 0 13 = gV_X1_keepMountsAlone Vc 0 13 ∧ vst (gV_X1_keepMountsAlone Vc) X r 0 14 = gV_X1_keepMountsAlone Vc 0 14 := by
  have wr : ∀ k, k < 4 → WkEq (W k) (W k) := fun k _ => WkEq.refl _
  have ic := i.cg (UEq.refl _) vc (fun _ _ => rfl) wr
  have cc := C.cg vc
  obtain ⟨b1, b2, b3⟩ := bare_q Vc
  have cp := VEq.copy (gV_X1_keepMountsAlone Vc) X
  generalize gV_X1_keepMountsAlone Vc = B at b1 b2 b3 cp
  have ve : ∀ q : Fin 12, q ≠ 0 → vst B X r q = gV_X1_copyFrom B X q := fun q hq => lm_q _ _ hq
  have ve0 : ∀ j, j ≠ 11 → vst B X r 0 j = gV_X1_copyFrom B X 0 j := fun j hj => lm_0 _ _ hj
  have ve11 : vst B X r 0 11 = nI (4 + r) := lm_11 _ _
  generalize gV_X1_copyFrom B X = E at cp ve ve0
  generalize vst B X r = V' at ve ve0 ve11
  obtain ⟨c0, c1, c9⟩ := cp
  have z : ∀ j, j = 12 ∨ j = 13 ∨ j = 14 → V' 0 j = B 0 j := fun j hj => by
    rw [ve0 j (by omega)]
    rcases hj with q | q | q
    · rw [q]; exact c0.2.1
    · rw [q]; exact c0.2.2.1
    · rw [q]; exact c0.2.2.2
  have k0 : ∀ j, j = 12 ∨ j = 13 ∨ j = 14 → V' 0 j = Vc 0 j := fun j hj => by rw [z j hj, b1 0 (by decide) (by decide)]
  have r1 : ∀ j, j < 64 → V' 1 j = if kB Vc j = true then Vc 1 j else 0 := fun j hj => by rw [ve 1 (by decide), (c1 j hj).1, b2 j hj]
  have row : ∀ q : Fin 12, q = 2 ∨ q = 3 ∨ q = 4 ∨ q = 6 ∨ q = 7 ∨ q = 8 → ∀ j, j < 64 → V' q j = B q j := fun q hq j hj => by
    have cj := c1 j hj
    rcases hq with e | e | e | e | e | e <;> subst e <;> rw [ve _ (by decide)]
    · exact cj.2.1
    · exact cj.2.2.1
    · exact cj.2.2.2.1
    · exact cj.2.2.2.2.2.1
    · exact cj.2.2.2.2.2.2.1
    · exact cj.2.2.2.2.2.2.2
  have row' : ∀ q : Fin 12, q = 2 ∨ q = 3 ∨ q = 4 ∨ q = 6 ∨ q = 7 ∨ q = 8 → ∀ j, j < 64 → V' q j = Vc q j := fun q hq j hj => by
    rw [row q hq j hj]
    rcases hq with e | e | e | e | e | e <;> subst e <;> rw [b1 _ (by decide) (by decide)]
  have row9 : ∀ v, v < 3 → V' 9 v = B 9 v ∧ V' 10 v = B 10 v := fun v hv => by
    rw [ve 9 (by decide), ve 10 (by decide)]
    exact c9 v hv
  have row9' : ∀ v, v < 3 → V' 9 v = Vc 9 v ∧ V' 10 v = Vc 10 v := fun v hv => by
    rw [(row9 v hv).1, (row9 v hv).2, b1 9 (by decide) (by decide), b1 10 (by decide) (by decide)]
    exact ⟨rfl, rfl⟩
  have r5 : ∀ e, e < 64 → V' 5 e = nI (hcC V' e + hcV V' e) := fun e he => by
    rw [ve 5 (by decide), (c1 e he).2.2.2.2.1, b3 e he]
    have h1 : hcC V' e = hcC B e := cnt_cong (fun j _ hj => by rw [ve 1 (by decide), (c1 j (by omega)).1, row 2 (by decide) j (by omega)])
    have h2 : hcV V' e = hcV B e := cnt_cong (fun v _ hv => by rw [(row9 v (by omega)).2])
    rw [h1, h2]
  refine ⟨ic.bare cc (by omega) (by omega) k0 ve11 r1 r5 row' row9', fun {D D'} rr d0 d3 dh dw dk => ?_, z 13 (by decide), z 14 (by decide)⟩
  refine (rr.cg i.N.n60 (UEq.refl _) vc (fun _ _ => rfl) wr (fun _ _ => rfl)).bare i.N.n60 k0 ve11 r1 row' row9' (fun e he => ?_) d3 dh dw dk
  rw [d0 e he]
  by_cases e64 : e < 64
  · rw [(vc.2.1 e e64).1]
  · rw [if_neg (fun q => e64 q.1), if_neg (fun q => e64 q.1)]
theorem RefL.f41 {J : MJ} (h : RefL J) (I : MI) : fR (I, J) 10 188 41 = some (some 206) := by rw [fR_ok 41 h.k, h.r41]
/-- a path's steps are laid aside -/
theorem loads_cp {J : MJ} (h : RefL J) (Y : MI) {p l : Nat} (hp : p < 12) (l12 : l ≤ 12) (hl : Y 203 p = nI l) (x1 x2 : Int32) : ∃ S, Ev T_X10_laysLoads 24 [some (mR (some 188)), some (mI x1), some (mI x2), some (mI (nI p)), some (mI 0), none] [] (Y, J) = Ev T_X10_laysLoads 24 [some (mR (some 188)), some (mI x1), some (mI x2), some (mI (nI p)), some (mI (nI l)), none] [] (rw1 Y 193 S, J) ∧ ∀ j, j < l → S j = Y 202 (12 * p + j) := by
  have s1 := loop_all (fun k S => Ev T_X10_laysLoads 24 [some (mR (some 188)), some (mI x1), some (mI x2), some (mI (nI p)), some (mI (nI k)), none] [] (rw1 Y 193 S, J)) (fun k S => sD S (0 + k) (Y 202 (12 * p + k))) l (Y 193) (fun k S hk => by
    try dsimp only
    have e : (12 : Int32) * nI p + nI k = nI (12 * p + k) := by rw [show (12 : Int32) = nI 12 from rfl, nI_mul, nI_add]
    rw [E_X10_laysLoads_24]
    simp only [h.f35, h.f16, h.f34, Option.bind_some, ldx h.s35 hp (by decide) rfl, rw1_n Y S (show (203 : Nat) ≠ 193 by decide), rw1_n Y S (show (202 : Nat) ≠ 193 by decide), hl, if_neg (nI_ge hk (by omega)), ldx h.s34 (show 12 * p + k < 144 by omega) (by decide) e, stx h.s16 (show k < 64 by omega) (by decide) rfl, rw1_st, nI_1, Nat.zero_add])
  try dsimp only at s1
  rw [show (nI 0) = 0 from rfl, rw1_id] at s1
  refine ⟨_, s1, fun j hj => ?_⟩
  rw [itr_sD 0 (fun k => Y 202 (12 * p + k)), if_pos (by omega)]
  rfl
theorem loads_loop {U : NodV} {n vol T L r : Nat} {J : MJ} (h : RefL J) (hr : r < 37) (L12 : L ≤ 12) {R : Nat → RouV} (V0 : MemV) : ∀ (f k : Nat) (Y : MI) (t : Nat) (x2 : Int32), k + f = L → (∀ p, p < L → ∃ l, l ≤ 12 ∧ Y 203 p = nI l ∧ Pth (R p) (fun j => Y 202 (12 * p + j)) l) → Y 188 36 = nI L → Y 188 20 = -1 → Y 188 21 = -1 → Rel none U (runV U R k V0) H00 W00 (Y 194) n → Inv U (runV U R k V0) H00 W00 n vol t T (fun _ => 0) → CntI (runV U R k V0) → t + 25 * f ≤ T → ∃ Y', Ev T_X10_laysLoads 13 [some (mR (some 188)), some (mI (nI (4 + r))), some (mI x2), some (mI (nI k)), none, none] [] (Y, J) = Ev T_X10_laysLoads 13 [some (mR (some 188)), some (mI (nI (4 + r))), some (mI (x2 + (runV U R L V0 0 13 - runV U R k V0 0 13))), some (mI (nI L)), none, none] [] (Y', J) ∧ (∀ x, x ≠ 188 → x ≠ 193 → x ≠ 194 → x ≠ 195 → x ≠ 206 → Y' x = Y x) ∧ (∀ j, j ≠ 22 → Y' 188 j = Y 188 j) ∧ ∀ j, j < 492 → Y' 206 j = if 12 * (4 + r) + k ≤ j ∧ j < 12 * (4 + r) + L then runV U R (j - 12 * (4 + r) + 1) V0 0 13 - runV U R (j - 12 * (4 + r)) V0 0 13 else Y 206 j := by
  intro f
  induction f with
  | zero =>
    intro k Y t x2 hk _ _ _ _ _ _ _ _
    have : k = L := by omega
    subst this
    refine ⟨Y, ?_, fun _ _ _ _ _ _ => rfl, fun _ _ => rfl, fun j _ => by rw [if_neg (by omega)]⟩
    rw [Int32.sub_self, Int32.add_zero]
  | succ f ih =>
    intro k Y t x2 hk hp y36 y20 y21 rr i C tT
    obtain ⟨l, l12, hl, pth⟩ := hp k (by omega)
    obtain ⟨S, s1, s2⟩ := loads_cp h Y (show k < 12 by omega) l12 hl (nI (4 + r)) x2
    have q : ∀ x, x ≠ 193 → rw1 Y 193 S x = Y x := fun x a => rw1_n _ _ a
    have qS : rw1 Y 193 S 193 = S := rw1_s _ _ _
    generalize rw1 Y 193 S = Y1 at s1 q qS
    have x2l : ix (R k 0 1) = l := by rw [pth.1, ix_nI (by omega)]
    obtain ⟨D', G', c', how, t', w1, w2, w3, w4, w5⟩ := rr.walks i C (fun e _ z => absurd rfl z) h Y1 (by rw [q 188 (by decide), y20]; exact Or.inl ⟨rfl, fun _ => rfl⟩) (by rw [q 188 (by decide)]; exact y21) (Y1 195) (Y1 188 22) (s1 := 193) h.s16 (by decide) (P := R k) (lp := l) (m := l) (L := 12) pth.1 (Nat.le_refl _) l12 (by decide) (by omega) (fun j hj => by
      rw [qS, s2 j hj]
      exact pth.2 j hj) (R k 0 1) x2l (by omega)
    have y194 : Y1 194 = Y 194 := q 194 (by decide)
    rw [← y194, rF_id] at w1
    have fold : gV_X1_walk 12 (R k) U (runV U R k V0) (R k 0 1) = runV U R (k + 1) V0 := rfl
    rw [fold] at w2
    have eix : (12 : Int32) * nI (4 + r) + nI k = nI (12 * (4 + r) + k) := by rw [show (12 : Int32) = nI 12 from rfl, nI_mul, nI_add]
    have d1 : D' 1 = runV U R (k + 1) V0 0 13 := w2.1.B.lo
    have d0 : Y1 194 1 = runV U R k V0 0 13 := by rw [y194]; exact rr.B.lo
    have step : Ev T_X10_laysLoads 13 [some (mR (some 188)), some (mI (nI (4 + r))), some (mI x2), some (mI (nI k)), none, none] [] (Y, J) = Ev T_X10_laysLoads 13 [some (mR (some 188)), some (mI (nI (4 + r))), some (mI (x2 + (runV U R (k + 1) V0 0 13 - runV U R k V0 0 13))), some (mI (nI (k + 1))), none, none] [] (up2 (rF Y1 D' G' c') 206 (12 * (4 + r) + k) (runV U R (k + 1) V0 0 13 - runV U R k V0 0 13), J) := by
      rw [E_X10_laysLoads_13]
      simp only [h.fi, y36, Option.bind_some, if_neg (nI_ge (show k < L by omega) (by omega)), s1]
      rw [E_X10_laysLoads_24]
      have o94 : ∀ v, up2 (rF Y1 D' G' c') 206 (12 * (4 + r) + k) v 194 = D' := fun v => by rw [up2_o _ _ _ (by decide), rF_D]
      simp only [h.f35, h.f16, h.f18, h.f41, Option.bind_some, ldx h.s35 (show k < 12 by omega) (by decide) rfl, q 203 (by decide), hl, if_pos (Int32.le_refl (nI l)), h.ldD _ (show (1 : Int32) = nI 1 from rfl) (show 1 < 1853 by decide), d0, h.kt, if_true, w1, asI_I, rF_D, d1, stx h.s41 (show 12 * (4 + r) + k < 492 by omega) (by decide) eix, o94, nI_1]
    have z : ∀ x, x ≠ 188 → x ≠ 193 → x ≠ 194 → x ≠ 195 → x ≠ 206 → up2 (rF Y1 D' G' c') 206 (12 * (4 + r) + k) (runV U R (k + 1) V0 0 13 - runV U R k V0 0 13) x = Y x := fun x a b c d e => by rw [up2_o _ _ _ e, rF_o _ _ _ _ a c d, q x b]
    have zk : ∀ j, j ≠ 22 → up2 (rF Y1 D' G' c') 206 (12 * (4 + r) + k) (runV U R (k + 1) V0 0 13 - runV U R k V0 0 13) 188 j = Y 188 j := fun j hj => by rw [up2_o _ _ _ (by decide), rF_k _ _ _ _ hj, q 188 (by decide)]
    have z94 : up2 (rF Y1 D' G' c') 206 (12 * (4 + r) + k) (runV U R (k + 1) V0 0 13 - runV U R k V0 0 13) 194 = D' := by rw [up2_o _ _ _ (by decide), rF_D]
    have z06 : ∀ j, up2 (rF Y1 D' G' c') 206 (12 * (4 + r) + k) (runV U R (k + 1) V0 0 13 - runV U R k V0 0 13) 206 j = if j = 12 * (4 + r) + k then runV U R (k + 1) V0 0 13 - runV U R k V0 0 13 else Y 206 j := fun j => by rw [up2_r, rF_o _ _ _ _ (by decide) (by decide) (by decide), q 206 (by decide)]
    generalize up2 (rF Y1 D' G' c') 206 (12 * (4 + r) + k) (runV U R (k + 1) V0 0 13 - runV U R k V0 0 13) = Y2 at step z zk z94 z06
    obtain ⟨Y', a1, a2, a3, a4⟩ := ih (k + 1) Y2 t' (x2 + (runV U R (k + 1) V0 0 13 - runV U R k V0 0 13)) (by omega) (fun p hp' => by
      obtain ⟨l, b1, b2, b3⟩ := hp p hp'
      exact ⟨l, b1, by rw [z 203 (by decide) (by decide) (by decide) (by decide) (by decide)]; exact b2, by rw [z 202 (by decide) (by decide) (by decide) (by decide) (by decide)]; exact b3⟩) (by rw [zk 36 (by decide)]; exact y36) (by rw [zk 20 (by decide)]; exact y20) (by rw [zk 21 (by decide)]; exact y21) (by rw [z94]; exact w2.1) w2.2.1 w2.2.2.1 (by omega)
    refine ⟨Y', ?_, fun x b c d e g => by rw [a2 x b c d e g, z x b c d e g], fun j hj => by rw [a3 j hj, zk j hj], fun j hj => ?_⟩
    · rw [step, a1]
      have e : x2 + (runV U R (k + 1) V0 0 13 - runV U R k V0 0 13) + (runV U R L V0 0 13 - runV U R (k + 1) V0 0 13) = x2 + (runV U R L V0 0 13 - runV U R k V0 0 13) := by
        generalize runV U R (k + 1) V0 0 13 = a
        generalize runV U R L V0 0 13 = b
        generalize runV U R k V0 0 13 = c
        apply Int32.toBitVec_inj.1
        simp only [Int32.toBitVec_add, Int32.toBitVec_sub]
        bv_omega
      rw [e]
    · rw [a4 j hj, z06]
      by_cases w : j = 12 * (4 + r) + k
      · rw [if_neg (by omega), if_pos w, if_pos (by omega), show j - 12 * (4 + r) = k by omega]
      · rw [if_neg w]
        by_cases v : 12 * (4 + r) + (k + 1) ≤ j ∧ j < 12 * (4 + r) + L
        · rw [if_pos v, if_pos (by omega)]
        · rw [if_neg v, if_neg (by omega)]

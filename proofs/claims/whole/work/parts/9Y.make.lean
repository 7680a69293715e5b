/-! Something made, on both sides. -/
def fiD (D : RowV) (n e : Nat) (a0 a1 a2 a3 : Int32) : RowV := sD (sD (sD (sD (sD (sD (sD (sD D 4 (nI (n + 1))) (401 + 5 * n + 0) a0) (401 + 5 * n + 1) a1) (401 + 5 * n + 2) a2) (401 + 5 * n + 3) a3) (401 + 5 * n + 4) 1) (701 + 9 * e + 3) (nI n)) (701 + 9 * e + 4) (D (701 + 9 * e + 4) + 1)
theorem fiD_o (D : RowV) {n e : Nat} (a0 a1 a2 a3 : Int32) {j : Nat} (h4 : j ≠ 4) (hn : j < 401 + 5 * n ∨ 401 + 5 * n + 5 ≤ j) (h3 : j ≠ 701 + 9 * e + 3) (h44 : j ≠ 701 + 9 * e + 4) : fiD D n e a0 a1 a2 a3 j = D j := by
  unfold fiD
  rw [sD_n _ _ h44, sD_n _ _ h3, sD_n _ _ (by omega), sD_n _ _ (by omega), sD_n _ _ (by omega), sD_n _ _ (by omega), sD_n _ _ (by omega), sD_n _ _ h4]
theorem fiD_at (D : RowV) {n e : Nat} (n60 : n < 60) (a0 a1 a2 a3 : Int32) : fiD D n e a0 a1 a2 a3 4 = nI (n + 1) ∧ fiD D n e a0 a1 a2 a3 (401 + 5 * n + 0) = a0 ∧ fiD D n e a0 a1 a2 a3 (401 + 5 * n + 1) = a1 ∧ fiD D n e a0 a1 a2 a3 (401 + 5 * n + 2) = a2 ∧ fiD D n e a0 a1 a2 a3 (401 + 5 * n + 3) = a3 ∧ fiD D n e a0 a1 a2 a3 (401 + 5 * n + 4) = 1 ∧ fiD D n e a0 a1 a2 a3 (701 + 9 * e + 3) = nI n ∧ fiD D n e a0 a1 a2 a3 (701 + 9 * e + 4) = D (701 + 9 * e + 4) + 1 := by
  unfold fiD
  refine ⟨?_, ?_, ?_, ?_, ?_, ?_, ?_, sD_s _ _ _⟩
  · rw [sD_n _ _ (by omega), sD_n _ _ (by omega), sD_n _ _ (by omega), sD_n _ _ (by omega), sD_n _ _ (by omega), sD_n _ _ (by omega), sD_n _ _ (by omega), sD_s]
  · rw [sD_n _ _ (by omega), sD_n _ _ (by omega), sD_n _ _ (by omega), sD_n _ _ (by omega), sD_n _ _ (by omega), sD_n _ _ (by omega), sD_s]
  · rw [sD_n _ _ (by omega), sD_n _ _ (by omega), sD_n _ _ (by omega), sD_n _ _ (by omega), sD_n _ _ (by omega), sD_s]
  · rw [sD_n _ _ (by omega), sD_n _ _ (by omega), sD_n _ _ (by omega), sD_n _ _ (by omega), sD_s]
  · rw [sD_n _ _ (by omega), sD_n _ _ (by omega), sD_n _ _ (by omega), sD_s]
  · rw [sD_n _ _ (by omega), sD_n _ _ (by omega), sD_s]
  · rw [sD_n _ _ (by omega), sD_s]
theorem Rel.fill {U : NodV} {V V' : MemV} {H : OneV} {W : WkV} {D : RowV} {n vol : Nat} (r : Rel none U V H W D n) (hN : NodI U n vol) (n59 : n < 60) {e kp : Nat} (e64 : e < 64) (e1 : ¬ V 1 e = 0) {nm ym kind : Int32} (hn : Nm nm ym) (hk : kind = 1 ∨ kind = 2) (a4 : ∀ j, V' 4 j = if j = e then nI n else V 4 j) (a6 : ∀ j, V' 6 j = if j = e then V 6 e + 1 else V 6 j) (kk : ∀ q : Fin 12, q ≠ 4 → q ≠ 6 → V' q = V q) : Rel none (addU U n (U 1 kp) (nI kp) nm kind) V' H W (fiD D n e (U 1 kp) (if kind = 2 then 1 else 0) (nI kp) ym) (n + 1) := by
  obtain ⟨u1, u2, u3, u4, u5, u05, u06⟩ := addU_r U n (U 1 kp) (nI kp) nm kind
  generalize addU U n (U 1 kp) (nI kp) nm kind = U' at u1 u2 u3 u4 u5 u05 u06
  obtain ⟨d4, d0, d1, d2, d3, d5, d6, d7⟩ := fiD_at D (e := e) n59 (U 1 kp) (if kind = 2 then 1 else 0) (nI kp) ym
  have o := fun {j} h4 hn h3 h44 => fiD_o D (n := n) (e := e) (U 1 kp) (if kind = 2 then 1 else 0) (nI kp) ym (j := j) h4 hn h3 h44
  have kd0 : ¬ kind = 0 := by rcases hk with z | z <;> rw [z] <;> decide
  have b := r.B
  have c1 := kk 1 (by decide) (by decide)
  have c0 := kk 0 (by decide) (by decide)
  refine r.fr ⟨?_, ?_, ?_, ?_, ?_, ?_, ?_, ?_, ?_, ?_, ?_⟩ (fun j h1 h2 => o (by omega) (by omega) (by omega) (by omega)) (fun k z => by cases z)
  · rw [o (by omega) (by omega) (by omega) (by omega), c0]; exact b.tk
  · rw [o (by omega) (by omega) (by omega) (by omega), c0]; exact b.lo
  · rw [o (by omega) (by omega) (by omega) (by omega), c0]; exact b.tr
  · rw [o (by omega) (by omega) (by omega) (by omega), c0]; exact b.rm
  · rw [d4, u05]
  · intro v hv
    rw [o (by omega) (by omega) (by omega) (by omega), kk 9 (by decide) (by decide)]; exact b.rt v hv
  · intro v hv
    rw [o (by omega) (by omega) (by omega) (by omega), kk 10 (by decide) (by decide)]; exact b.ov v hv
  · intro k hk'
    rw [o (by omega) (by omega) (by omega) (by omega)]; exact b.ha k hk'
  · intro k hk'
    rw [u1, u2, u3, u4]
    by_cases z : k = n
    · subst z
      rw [d0, d1, d2, d3, d5, if_pos rfl, if_pos rfl, if_pos rfl, if_pos rfl, if_neg kd0]
      exact ⟨rfl, rfl, Or.inl hn, rfl, fun _ => rfl⟩
    · rw [if_neg z, if_neg z, if_neg z, if_neg z, o (by omega) (by omega) (by omega) (by omega), o (by omega) (by omega) (by omega) (by omega), o (by omega) (by omega) (by omega) (by omega), o (by omega) (by omega) (by omega) (by omega), o (by omega) (by omega) (by omega) (by omega)]
      exact b.nd k (by omega)
  · intro f hf
    rw [o (by omega) (by omega) (by omega) (by omega), c1]
    exact b.th f hf
  · intro f hf q
    rw [c1] at q
    have en := b.en f hf q
    rw [o (by omega) (by omega) (by omega) (by omega), o (j := 701 + 9 * f + 2) (by omega) (by omega) (by omega) (by omega), o (j := 701 + 9 * f + 5) (by omega) (by omega) (by omega) (by omega), o (j := 701 + 9 * f + 6) (by omega) (by omega) (by omega) (by omega), o (j := 701 + 9 * f + 7) (by omega) (by omega) (by omega) (by omega), o (j := 701 + 9 * f + 8) (by omega) (by omega) (by omega) (by omega), c1, kk 2 (by decide) (by decide), kk 3 (by decide) (by decide), kk 7 (by decide) (by decide), kk 8 (by decide) (by decide), cov_fr (kk 10 (by decide) (by decide)), a4, a6]
    by_cases z : f = e
    · subst z
      rw [d6, d7, if_pos rfl, if_pos rfl, en.2.2.2.1]
      exact ⟨en.1, en.2.1, rfl, rfl, en.2.2.2.2.1, en.2.2.2.2.2⟩
    · rw [if_neg z, if_neg z, o (by omega) (by omega) (by omega) (by omega), o (by omega) (by omega) (by omega) (by omega)]
      exact en
theorem Rfs.make (x : Int32) : Rfs (M_X10_make [mR (some 188), mI x]) 3 := by
  intro J X X1 y h hp hc
  rw [E_X10_make]
  simp only [h.kt, if_true, hp, Option.bind_some, asI_I, h.fz, w_refuses h _ (show (3 : Int32) = nI 3 from rfl) (by decide)]
  rcases hc with z | ⟨z1, z2⟩
  · rw [if_pos z]
  · rw [if_neg z1, if_pos z2]
theorem P_make {I : MI} {J : MJ} {T B0 : Nat} (h : St I J T B0) (h30 : T + 10001 ≤ 1000000000) (x : Int32) : Pair I J T B0 (M_X9_make [mR (some 0), mI x]) (M_X10_make [mR (some 188), mI x]) := by
  obtain ⟨n, t1, t2, t3⟩ := h.2.1
  have T4 := t1.1
  have w1' : vw 6 (tkn I n) 1 = vw 6 I 1 := vw_fr (fun x _ _ => tkn_o I n (by omega) (by omega))
  by_cases hy : (rowO I n).1 = 1
  · rcases h.2.2.2.2.2.2.2.2.2 with td | u
    · obtain ⟨vol, nn, t, X, J1, hv, i, c, r, k1, kl, rl, ⟨e1, e2, e3, e4, e16⟩, x186, rest⟩ := act_pre (n := n) h h30 td t1 t2 t3 hy
      have n60 := i.N.n60
      have ev : vw 6 I 1 0 5 = nI nn := i.N.ev
      by_cases full : nn = 60
      · have hf : ¬ q_X2_isFull (vw 6 (tkn I n) 1) = 0 := by
          rw [w1']
          unfold q_X2_isFull
          rw [ev, full]
          decide
        refine Pair.path_full h h30 td t1 t2 t3 hy (k := 3) (by decide) (u_make_full h.1.1 I T4 t1.2.1 x hy hf) (fun Y Y1 y1 y2 y3 => ?_)
        have t13 : ¬ bz (Y1 188 13) = 0 := by
          rw [y3 13 (by decide) (by decide) (by decide) (by decide)]
          obtain ⟨_, _, _, _, _, z, _⟩ := td
          exact z
        have y4 : Y1 194 4 = 60 := by rw [y2, r.B.ev, ev, full]; rfl
        rw [E_X10_make]
        simp only [h.1.2.kt, if_true, y1, Option.bind_some, asI_I, if_neg i10, h.1.2.fz, if_neg t13, h.1.2.f18, h.1.2.ldD _ (show (4 : Int32) = nI 4 from rfl) (show 4 < 1853 by decide), y4, w_refuses h.1.2 _ (show (3 : Int32) = nI 3 from rfl) (by decide)]
      · have n59 : nn < 60 := by omega
        have hf : q_X2_isFull (vw 6 (tkn I n) 1) = 0 := by
          rw [w1']
          unfold q_X2_isFull
          rw [ev, if_pos (show nI nn < 60 from nI_lt (b := 60) n59 (by decide))]
        have uE := u_make h.1.1 I T4 t1.2.1 x hy hf k1 kl
        unfold q_X8_makeAt gU_X8_makeAt gV_X8_makeAt at uE
        rw [e1, e2] at uE
        have ip := i.T (show T ≤ T + 10000 by omega) (by omega)
        have tT := i.Z.tT
        have place : ∀ (Z : MI) (l' : Nat), Pth (vw 2 X 158) (Z 192) l' → l' ≤ 12 → Z 188 20 = -1 → Z 188 21 = -1 → Z 194 = I 194 → ∃ D' G' c' y t', M_X10_isPlace [mR (some 188), mR (some 192), mI (nI l')] (Z, J1) = some (some (mI y), (rF Z D' G' c', J1)) ∧ Stq none (vw 6 I 1) (vw 12 I 17) (gV_X1_walk 12 (vw 2 X 158) (vw 6 I 1) (vw 12 I 17) (vw 2 X 158 0 1 - 1)) (vw 1 I 29) (wks I 31) D' nn vol t' (T + 10000) 0 (fun _ => 0) ∧ t' ≤ t + 25 ∧ Plo (vw 6 I 1) (gV_X1_walk 12 (vw 2 X 158) (vw 6 I 1) (vw 12 I 17) (vw 2 X 158 0 1 - 1)) (vw 2 X 158) (Z 192) l' 12 (q_X1_walk 12 (vw 2 X 158) (vw 6 I 1) (vw 12 I 17) (vw 2 X 158 0 1 - 1)) y c' := by
          intro Z l' pth l12 z20 z21 zD
          obtain ⟨D', G', c', y, t', w1, w2, w3, w4, w5⟩ := r.isPlace ip c (fun e _ z => absurd rfl z) rl Z (by rw [z20]; exact Or.inl ⟨rfl, fun _ => rfl⟩) z21 (Z 195) (Z 188 22) rl.s14 (by decide) (L := 12) pth l12 (by decide) (by omega) (by omega)
          rw [← zD, rF_id] at w1
          exact ⟨D', G', c', y, t', w1, w2, by omega, w5⟩
        generalize hQ : q_X1_walk 12 (vw 2 X 158) (vw 6 I 1) (vw 12 I 17) (vw 2 X 158 0 1 - 1) = Q at uE place
        generalize hV1 : gV_X1_walk 12 (vw 2 X 158) (vw 6 I 1) (vw 12 I 17) (vw 2 X 158 0 1 - 1) = V1 at uE place
        have begin_ : ∀ (I1 Y1 Z : MI) (l' : Nat) (y : Int32) (D' G' : RowV) (c' : Int32), M_X10_isPath [mR (some 188)] (I1, J1) = some (some (mI 1), (Y1, J1)) → (∀ k, k ≠ 1 → k ≠ 2 → k ≠ 3 → k ≠ 15 → Y1 188 k = I 188 k) → Y1 194 = I 194 → M_X10_keeps [mR (some 188)] (Y1, J1) = some (none, (Z, J1)) → Z 188 15 = nI l' → M_X10_isPlace [mR (some 188), mR (some 192), mI (nI l')] (Z, J1) = some (some (mI y), (rF Z D' G' c', J1)) → M_X10_make [mR (some 188), mI x] (I1, J1) = if y = 0 then some (some (mI (-1)), (rfR (rF Z D' G' c') 3, J1)) else M_X10_make [mR (some 188), mI x] (I1, J1) := by
          intro I1 Y1 Z l' y D' G' c' g1 g2 g3 g4 g5 g6
          by_cases z : y = 0
          · rw [if_pos z]
            have t13 : ¬ bz (Y1 188 13) = 0 := by
              rw [g2 13 (by decide) (by decide) (by decide) (by decide)]
              obtain ⟨_, _, _, _, _, z, _⟩ := td
              exact z
            have y4 : ¬ Y1 194 4 = 60 := by rw [g3, r.B.ev, ev]; exact fun w => full ((nI_eq (b := 60) (by omega) (by decide)).mp w)
            rw [E_X10_make]
            simp only [rl.kt, if_true, g1, Option.bind_some, asI_I, if_neg i10, rl.fz, if_neg t13, rl.f18, rl.ldD _ (show (4 : Int32) = nI 4 from rfl) (show 4 < 1853 by decide), if_neg y4, g4, asV_n, rl.f14, rl.fi, g5, g6, if_pos z, w_refuses rl _ (show (3 : Int32) = nI 3 from rfl) (by decide)]
          · rw [if_neg z]
        sorry
    · refine absurd hy ?_
      unfold rowO
      rw [if_pos (by rw [u.2.2.1.2.1]; exact Int32.le_refl _)]
      exact (by decide : ¬ (-1 : Int32) = 1)
  · exact Pair.path_no h h30 t1 t2 t3 hy (by decide) (u_make_no h.1.1 I T4 t1.2.1 x hy) (Rfs.make x)

/-! A trace taken, on both sides. -/
theorem bcm_loop : ∀ (n k : Nat) (I0 : MI), k + n ≤ 12 → (∀ x, x ≠ 69 → (x < 134 + 2 * k ∨ 134 + 2 * (k + n) ≤ x) → itr (fun k I => bstep 69 158 k I) k n I0 x = I0 x) ∧ (∀ j, j ≠ 1 → itr (fun k I => bstep 69 158 k I) k n I0 69 j = I0 69 j) ∧ (∀ m, I0 69 1 = nI m → itr (fun k I => bstep 69 158 k I) k n I0 69 1 = nI (m + n)) ∧ ∀ j l, k ≤ j → j < k + n → I0 (rr 158 j) 1 = nI l → l ≤ 12 → itr (fun k I => bstep 69 158 k I) k n I0 (134 + 2 * j) 1 = nI l ∧ ∀ i, i < l → itr (fun k I => bstep 69 158 k I) k n I0 (134 + 2 * j + 1) i = I0 (rr 158 j + 1) i
  | 0, k, I0, hk => ⟨fun x _ _ => rfl, fun j _ => rfl, fun m h => h, fun j l h1 h2 => by omega⟩
  | n + 1, k, I0, hk => by
    have e : itr (fun k I => bstep 69 158 k I) k (n + 1) I0 = itr (fun k I => bstep 69 158 k I) (k + 1) n (bstep 69 158 k I0) := rfl
    rw [e]
    obtain ⟨g1, g2, g3, g4⟩ := bcm_loop n (k + 1) (bstep 69 158 k I0) (by omega)
    have b1 : ∀ x, x ≠ 69 → (x < 134 + 2 * k ∨ 136 + 2 * k ≤ x) → bstep 69 158 k I0 x = I0 x := fun x a b => by
      unfold bstep
      rw [up2_o _ _ _ a, pt_out (by omega)]
    have b2 : ∀ j, bstep 69 158 k I0 69 j = if j = 1 then I0 69 1 + 1 else I0 69 j := fun j => by
      unfold bstep
      rw [up2_r, pt_out (by omega)]
    have rin : ∀ j, j < 12 → 158 ≤ rr 158 j ∧ rr 158 j + 2 ≤ 183 := fun j hj => rr_in hj
    refine ⟨fun x a b => ?_, fun j hj => ?_, fun m hm => ?_, fun j l h1 h2 h3 h4 => ?_⟩
    · rw [g1 x a (by omega), b1 x a (by omega)]
    · rw [g2 j hj, b2, if_neg hj]
    · rw [g3 (m + 1) (by rw [b2, if_pos rfl, hm, nI_1]), show m + 1 + n = m + (n + 1) by omega]
    · have rj := rin j (by omega)
      by_cases z : j = k
      · subst z
        have c := copy_route (L2 := 12) (L := 12) (P2 := vw 2 I0 (rr 158 j)) (P := vw 2 I0 (134 + 2 * j)) h3 h4 h4 (by decide) (by decide)
        have p : ∀ q : Fin 2, bstep 69 158 j I0 (134 + 2 * j + q.val) = gP_X4_copyFrom 12 12 (vw 2 I0 (rr 158 j)) (vw 2 I0 (134 + 2 * j)) q := fun q => by
          unfold bstep
          rw [up2_o _ _ _ (by omega)]
          exact pt_in q
        have p0 := p 0
        have p1 := p 1
        rw [g1 (134 + 2 * j) (by omega) (by omega), g1 (134 + 2 * j + 1) (by omega) (by omega)]
        rw [show 134 + 2 * j + (0 : Fin 2).val = 134 + 2 * j from rfl] at p0
        rw [show 134 + 2 * j + (1 : Fin 2).val = 134 + 2 * j + 1 from rfl] at p1
        rw [p0, p1]
        exact c
      · obtain ⟨g5, g6⟩ := g4 j l (by omega) (by omega) (by rw [b1 _ (by omega) (by omega)]; exact h3) h4
        refine ⟨g5, fun i hi => ?_⟩
        rw [g6 i hi, b1 _ (by omega) (by omega)]
theorem w_trace_copy {J : MJ} (h : RefL J) (I : MI) : Ev T_X10_trace 30 [some (mR (some 188)), some (mI 0)] [] (I, J) = some (some (mI (I 188 36)), (up2 (itr (rcp 205 203) 0 12 (itr (rcp 204 202) 0 144 I)) 188 37 (-1), J)) := by
  have s1 := loop_all (fun k I => Ev T_X10_trace 30 [some (mR (some 188)), some (mI (nI k))] [] (I, J)) (rcp 204 202) 144 I (fun k I hk => by
    try dsimp only
    rw [E_X10_trace_30, if_neg (show ¬ (144 : Int32) ≤ nI k from nI_ge (b := 144) hk (by decide))]
    simp only [h.f34, h.f39, Option.bind_some, ldx h.s39 hk (by decide) rfl, stx h.s34 hk (by decide) rfl, nI_1]
    rfl)
  try dsimp only at s1
  rw [show (nI 0) = 0 from rfl] at s1
  rw [s1, E_X10_trace_30, if_pos (show (144 : Int32) ≤ nI 144 by decide)]
  have o1 : itr (rcp 204 202) 0 144 I 188 36 = I 188 36 := by rw [rcp_o 144 0 I (show (188 : Nat) ≠ 202 by decide)]
  generalize itr (rcp 204 202) 0 144 I = I1 at o1
  have s2 := loop_all (fun k I => Ev T_X10_trace 57 [some (mR (some 188)), some (mI (nI k))] [] (I, J)) (rcp 205 203) 12 I1 (fun k I hk => by
    try dsimp only
    rw [E_X10_trace_57, if_neg (show ¬ (12 : Int32) ≤ nI k from nI_ge (b := 12) hk (by decide))]
    simp only [h.f35, h.f40, Option.bind_some, ldx h.s40 hk (by decide) rfl, stx h.s35 hk (by decide) rfl, nI_1]
    rfl)
  try dsimp only at s2
  rw [show (nI 0) = 0 from rfl] at s2
  rw [s2, E_X10_trace_57, if_pos (show (12 : Int32) ≤ nI 12 by decide)]
  have o2 : itr (rcp 205 203) 0 12 I1 188 36 = I 188 36 := by rw [rcp_o 12 0 I1 (show (188 : Nat) ≠ 203 by decide), o1]
  simp only [h.wi, h.fi, Option.bind_some, up2_k _ _ _ (show (36 : Nat) ≠ 37 by decide), o2]
theorem P_trace {I : MI} {J : MJ} {T B0 : Nat} (h : St I J T B0) (h30 : T + 10001 ≤ 1000000000) : Pair I J T B0 (M_X9_trace [mR (some 0)]) (M_X10_trace [mR (some 188)]) := by
  obtain ⟨n, t1, t2, t3⟩ := h.2.1
  have T4 := t1.1
  have rl := h.1.2
  have no : (rowO I n).1 = -1 → Pair I J T B0 (M_X9_trace [mR (some 0)]) (M_X10_trace [mR (some 188)]) := by
    intro hn
    have uE := u_trace_no h.1.1 I T4 t1.2.1 hn
    have o : ∀ x, x ≠ 7 → (x < 158 ∨ 183 ≤ x) → x ≠ 186 → rfz (tkn I n) 5 x = I x := fun x p q r => by rw [rfz_o _ _ r, tkn_o _ _ p q]
    obtain ⟨y, p', m', S', A', L', c', g1, g2, g3⟩ := w_isTrace (Y := rfz (tkn I n) 5) rl t1 (by rw [o 188 (by decide) (by decide) (by decide)]; exact t2) (fun k hk => by rw [o 189 (by decide) (by decide) (by decide)]; exact t3 k hk)
    have yk : ∀ k, k ≠ 1 → k ≠ 2 → k ≠ 3 → k ≠ 15 → k ≠ 38 → pF (tB (bgP (rfz (tkn I n) 5) n) (nI c') A' L') (nI p') m' S' 188 k = I 188 k := fun k a b c d e => by rw [pF_k _ _ _ _ b d, tB_k _ _ _ _ e, bgP_k _ _ a b c, o 188 (by decide) (by decide) (by decide)]
    have yo : ∀ x, x ≠ 188 → x ≠ 192 → x ≠ 204 → x ≠ 205 → pF (tB (bgP (rfz (tkn I n) 5) n) (nI c') A' L') (nI p') m' S' x = rfz (tkn I n) 5 x := fun x a b c d => by rw [pF_o _ _ _ _ a b, tB_o _ _ _ _ a c d, bgP_o _ _ a]
    have y1 : pF (tB (bgP (rfz (tkn I n) 5) n) (nI c') A' L') (nI p') m' S' 188 1 = 0 := by rw [pF_k _ _ _ _ (by decide) (by decide), tB_k _ _ _ _ (by decide)]; exact (bgP_3 _ _).2.1
    generalize pF (tB (bgP (rfz (tkn I n) 5) n) (nI c') A' L') (nI p') m' S' = Y1 at g1 yk yo y1
    have rf := w_refuses rl Y1 (k := 5) (x := 5) rfl (by decide)
    have res : M_X10_trace [mR (some 188)] (rfz (tkn I n) 5, J) = some (some (mI (-1)), (rfR Y1 5, J)) := by
      rw [E_X10_trace]
      simp only [rl.kt, if_true, g1, Option.bind_some, asI_I, rl.fz, rf]
      by_cases z : y = 0
      · rw [if_pos z]
      · rw [if_neg z]
        have : bz (Y1 188 13) = 0 := by
          rw [yk 13 (by decide) (by decide) (by decide) (by decide) (by decide)]
          rcases h.2.2.2.2.2.2.2.2.2 with ⟨vol, ad, p, q, hv, td, ⟨nn, t, i, c, r⟩, hs⟩ | u
          · rcases g3 (Told.h6 i) with ⟨_, q2, _⟩ | ⟨q1, _⟩
            · rw [hn] at q2
              exact absurd q2.symm (nI_m1 (by omega))
            · exact absurd q1 z
          · exact u.2.1
        rw [if_pos this]
    refine ⟨-1, _, _, J, uE, res, ?_⟩
    have ro : ∀ x, x ≠ 190 → rfR Y1 5 x = Y1 x := fun x a => rfR_o _ _ a
    refine h.tk h30 (h.2.2.2.1.rf (by decide) (yo 186 (by decide) (by decide) (by decide) (by decide)) (by rw [yo 190 (by decide) (by decide) (by decide) (by decide), o 190 (by decide) (by decide) (by decide)])) (fun x a b c d e f g i j => ?_) (fun k a b c d e f => ?_) ?_ ?_
    · rw [ro x e, yo x d f i j, o x a b c]
    · rw [ro 188 (by decide), yk k a b c d f]
    · rw [ro 7 (by decide), yo 7 (by decide) (by decide) (by decide) (by decide), rfz_o _ _ (by decide)]
      exact tkn_7 I n
    · rw [ro 188 (by decide)]
      exact y1
  rcases h.2.2.2.2.2.2.2.2.2 with ⟨vol, ad, p, q, hv, td, ⟨nn, t, i, c, r⟩, hs⟩ | u
  · have h6 : ¬ I 1 6 ≤ 0 := Told.h6 i
    have nu : Unt I J T B0 → False := fun u => h6 (by rw [u.2.2.1.2.1]; exact Int32.le_refl _)
    have ge : (rowO I n).1 = -1 ∨ ∃ c', 0 ≤ c' ∧ c' ≤ 12 ∧ (rowO I n).1 = nI c' := by
      unfold rowO
      rw [if_neg h6]
      exact lpRow_ge n (vw 2 I 7) (n + 1) 0 0 0 I (by omega)
    rcases ge with hn | ⟨c', _, c12, hc⟩
    · exact no hn
    · have uE := u_trace h.1.1 I T4 t1.2.1 hc c12
      obtain ⟨b1, b2, b3, b4⟩ := bcm_loop c' 0 (up2 (up2 (tkn I n) 69 1 0) 69 2 (-1)) (by omega)
      have hb : itr (fun k I => bstep 69 158 k I) 0 c' (up2 (up2 (tkn I n) 69 1 0) 69 2 (-1)) = bcm (tkn I n) 69 158 c' := rfl
      rw [hb] at b1 b2 b3 b4
      have b5 : ∀ x, x ≠ 69 → (x < 134 ∨ 158 ≤ x) → bcm (tkn I n) 69 158 c' x = tkn I n x := fun x a b => by
        rw [b1 x a (by omega), up2_o _ _ _ a, up2_o _ _ _ a]
      have b6 : bcm (tkn I n) 69 158 c' 69 1 = nI c' := by
        rw [b3 0 (by rw [up2_k _ _ _ (by decide), up2_s]; rfl), Nat.zero_add]
      have b7 : bcm (tkn I n) 69 158 c' 69 2 = -1 := by
        rw [b2 2 (by decide), up2_s]
      have b8 : ∀ j l, j < c' → tkn I n (rr 158 j) 1 = nI l → l ≤ 12 → bcm (tkn I n) 69 158 c' (134 + 2 * j) 1 = nI l ∧ ∀ i, i < l → bcm (tkn I n) 69 158 c' (134 + 2 * j + 1) i = tkn I n (rr 158 j + 1) i := fun j l hj q1 q2 => by
        have rj := rr_in (show j < 12 by omega)
        have := b4 j l (Nat.zero_le _) (by omega) (by rw [up2_o _ _ _ (by omega), up2_o _ _ _ (by omega)]; exact q1) q2
        rw [up2_o _ _ _ (show rr 158 j + 1 ≠ 69 by omega), up2_o _ _ _ (show rr 158 j + 1 ≠ 69 by omega)] at this
        exact this
      generalize bcm (tkn I n) 69 158 c' = Y0 at uE b5 b6 b7 b8
      have o : ∀ x, x ≠ 7 → x ≠ 69 → (x < 134 ∨ 183 ≤ x) → Y0 x = I x := fun x a b c => by rw [b5 x b (by omega), tkn_o _ _ a (by omega)]
      obtain ⟨y, p', m', S', A', L', c2, g1, g2, g3⟩ := w_isTrace (Y := Y0) rl t1 (by rw [o 188 (by decide) (by decide) (by decide)]; exact t2) (fun k hk => by rw [o 189 (by decide) (by decide) (by decide)]; exact t3 k hk)
      rcases g3 h6 with ⟨q1, q2, q3⟩ | ⟨_, q2⟩
      · have : c2 = c' := (nI_eq (by omega) (by omega)).mp (q2.symm.trans hc)
        subst this q1
        have yk : ∀ k, k ≠ 1 → k ≠ 2 → k ≠ 3 → k ≠ 15 → k ≠ 38 → pF (tB (bgP Y0 n) (nI c2) A' L') (nI p') m' S' 188 k = I 188 k := fun k a b c d e => by rw [pF_k _ _ _ _ b d, tB_k _ _ _ _ e, bgP_k _ _ a b c, o 188 (by decide) (by decide) (by decide)]
        have yo : ∀ x, x ≠ 188 → x ≠ 192 → x ≠ 204 → x ≠ 205 → pF (tB (bgP Y0 n) (nI c2) A' L') (nI p') m' S' x = Y0 x := fun x a b c d => by rw [pF_o _ _ _ _ a b, tB_o _ _ _ _ a c d, bgP_o _ _ a]
        have y1 : pF (tB (bgP Y0 n) (nI c2) A' L') (nI p') m' S' 188 1 = 0 := by rw [pF_k _ _ _ _ (by decide) (by decide), tB_k _ _ _ _ (by decide)]; exact (bgP_3 _ _).2.1
        have y38 : pF (tB (bgP Y0 n) (nI c2) A' L') (nI p') m' S' 188 38 = nI c2 := by rw [pF_k _ _ _ _ (by decide) (by decide), tB_c]
        have yA : pF (tB (bgP Y0 n) (nI c2) A' L') (nI p') m' S' 204 = A' := by rw [pF_o _ _ _ _ (by decide) (by decide), tB_A]
        have yL : pF (tB (bgP Y0 n) (nI c2) A' L') (nI p') m' S' 205 = L' := by rw [pF_o _ _ _ _ (by decide) (by decide), tB_L]
        generalize pF (tB (bgP Y0 n) (nI c2) A' L') (nI p') m' S' = Y1 at g1 yk yo y1 y38 yA yL
        have cpy := w_trace_copy rl (up2 Y1 188 36 (nI c2))
        rw [up2_s] at cpy
        have r2 : ∀ j, j < 144 → itr (rcp 204 202) 0 144 (up2 Y1 188 36 (nI c2)) 202 j = A' j := fun j hj => by
          rw [rcp_at (by decide), if_pos (by omega), up2_o _ _ _ (by decide), yA]
        have ro : ∀ x, x ≠ 202 → itr (rcp 204 202) 0 144 (up2 Y1 188 36 (nI c2)) x = up2 Y1 188 36 (nI c2) x := fun x a => rcp_o _ _ _ a
        generalize itr (rcp 204 202) 0 144 (up2 Y1 188 36 (nI c2)) = Y2 at cpy r2 ro
        have r3 : ∀ j, j < 12 → itr (rcp 205 203) 0 12 Y2 203 j = L' j := fun j hj => by
          rw [rcp_at (by decide), if_pos (by omega), ro _ (by decide), up2_o _ _ _ (by decide), yL]
        have ro3 : ∀ x, x ≠ 203 → itr (rcp 205 203) 0 12 Y2 x = Y2 x := fun x a => rcp_o _ _ _ a
        generalize itr (rcp 205 203) 0 12 Y2 = Y3 at cpy r3 ro3
        have zo : ∀ x, x ≠ 188 → x ≠ 192 → x ≠ 202 → x ≠ 203 → x ≠ 204 → x ≠ 205 → up2 Y3 188 37 (-1) x = Y0 x := fun x a b c d e f => by rw [up2_o _ _ _ a, ro3 x d, ro x c, up2_o _ _ _ a, yo x a b e f]
        have zk : ∀ k, k ≠ 1 → k ≠ 2 → k ≠ 3 → k ≠ 15 → k ≠ 36 → k ≠ 37 → k ≠ 38 → up2 Y3 188 37 (-1) 188 k = I 188 k := fun k a b c d e f g => by rw [up2_k _ _ _ f, ro3 188 (by decide), ro 188 (by decide), up2_k _ _ _ e, yk k a b c d g]
        have z1 : up2 Y3 188 37 (-1) 188 1 = 0 := by rw [up2_k _ _ _ (by decide), ro3 188 (by decide), ro 188 (by decide), up2_k _ _ _ (by decide)]; exact y1
        have z36 : up2 Y3 188 37 (-1) 188 36 = nI c2 := by rw [up2_k _ _ _ (by decide), ro3 188 (by decide), ro 188 (by decide), up2_s]
        have z37 : up2 Y3 188 37 (-1) 188 37 = -1 := up2_s _ _ _ _
        have z202 : ∀ j, j < 144 → up2 Y3 188 37 (-1) 202 j = A' j := fun j hj => by rw [up2_o _ _ _ (by decide), ro3 202 (by decide), r2 j hj]
        have z203 : ∀ j, j < 12 → up2 Y3 188 37 (-1) 203 j = L' j := fun j hj => by rw [up2_o _ _ _ (by decide), r3 j hj]
        generalize up2 Y3 188 37 (-1) = Z at cpy zo zk z1 z36 z37 z202 z203
        have f13 : ¬ bz (Y1 188 13) = 0 := by rw [yk 13 (by decide) (by decide) (by decide) (by decide) (by decide)]; exact td
        refine ⟨_, _, Z, J, uE, ?_, ?_⟩
        · rw [E_X10_trace]
          simp only [rl.kt, if_true, g1, Option.bind_some, asI_I, if_neg i10, rl.fz, if_neg f13, rl.fi, y38, rl.wi]
          exact cpy
        · have oo : ∀ x, x ≠ 7 → x ≠ 69 → (x < 134 ∨ 183 ≤ x) → x ≠ 188 → x ≠ 192 → x ≠ 202 → x ≠ 203 → x ≠ 204 → x ≠ 205 → Z x = I x := fun x a b c d e f g i j => by rw [zo x d e f g i j, o x a b c]
          have s7 : S7 Z c2 := by
            refine ⟨by rw [zo 69 (by decide) (by decide) (by decide) (by decide) (by decide) (by decide)]; exact b6, c12, z36, by rw [zo 69 (by decide) (by decide) (by decide) (by decide) (by decide) (by decide), b7, z37], fun p hp => ?_⟩
            obtain ⟨l, l1, l2, l3⟩ := q3 p hp
            have rp := rr_in (show p < 12 by omega)
            have tk : ∀ x, 158 ≤ x → x < 183 → tkn I n x = (rowO I n).2 x := fun x a b => tkn_r I n (by omega) (by omega)
            obtain ⟨b9, b10⟩ := b8 p l hp (by rw [tk _ (by omega) (by omega)]; exact l3.1) l1
            refine ⟨l, l1, by rw [z203 p (by omega)]; exact l2, ?_, fun k hk => ?_⟩
            · show Z (134 + 2 * p + 0) 1 = nI l
              rw [zo _ (by omega) (by omega) (by omega) (by omega) (by omega) (by omega)]
              exact b9
            · show NmS (Z (134 + 2 * p + 1) k) (Z 202 (12 * p + k))
              rw [zo _ (by omega) (by omega) (by omega) (by omega) (by omega) (by omega), b10 k hk, tk _ (by omega) (by omega), z202 _ (by omega)]
              exact l3.2 k hk
          exact h.sm (S1.emp (by rw [zo 7 (by decide) (by decide) (by decide) (by decide) (by decide) (by decide), b5 7 (by decide) (by decide)]; exact tkn_7 I n) z1) (h.2.2.1.fr (oo 9 (by decide) (by decide) (by decide) (by decide) (by decide) (by decide) (by decide) (by decide) (by decide)) (zk 6 (by decide) (by decide) (by decide) (by decide) (by decide) (by decide) (by decide)) (zk 7 (by decide) (by decide) (by decide) (by decide) (by decide) (by decide) (by decide))) (h.2.2.2.1.fr (oo _ (by decide) (by decide) (by decide) (by decide) (by decide) (by decide) (by decide) (by decide) (by decide)) (oo _ (by decide) (by decide) (by decide) (by decide) (by decide) (by decide) (by decide) (by decide) (by decide))) (h.2.2.2.2.1.fr (by rw [oo 0 (by decide) (by decide) (by decide) (by decide) (by decide) (by decide) (by decide) (by decide) (by decide)]) (oo _ (by decide) (by decide) (by decide) (by decide) (by decide) (by decide) (by decide) (by decide) (by decide)) (zk _ (by decide) (by decide) (by decide) (by decide) (by decide) (by decide) (by decide)) (oo _ (by decide) (by decide) (by decide) (by decide) (by decide) (by decide) (by decide) (by decide) (by decide))) (h.2.2.2.2.2.1.fr (by rw [oo 0 (by decide) (by decide) (by decide) (by decide) (by decide) (by decide) (by decide) (by decide) (by decide)]) (oo _ (by decide) (by decide) (by decide) (by decide) (by decide) (by decide) (by decide) (by decide) (by decide)) (zk _ (by decide) (by decide) (by decide) (by decide) (by decide) (by decide) (by decide)) (oo _ (by decide) (by decide) (by decide) (by decide) (by decide) (by decide) (by decide) (by decide) (by decide))) ⟨c2, s7⟩ (h.2.2.2.2.2.2.2.2.1.fr (zk _ (by decide) (by decide) (by decide) (by decide) (by decide) (by decide) (by decide)) (zk _ (by decide) (by decide) (by decide) (by decide) (by decide) (by decide) (by decide))) (fun x a b _ _ _ _ => oo x (by omega) (by omega) (by omega) (by omega) (by omega) (by omega) (by omega) (by omega) (by omega)) (oo _ (by decide) (by decide) (by decide) (by decide) (by decide) (by decide) (by decide) (by decide) (by decide)) (fun u => (nu u).elim) (fun x a => oo x (by omega) (by omega) (by omega) (by omega) (by omega) (by omega) (by omega) (by omega) (by omega)) (fun k a => zk k (by omega) (by omega) (by omega) (by omega) (by omega) (by omega) (by omega)) (fun k _ => by rw [oo 194 (by decide) (by decide) (by decide) (by decide) (by decide) (by decide) (by decide) (by decide) (by decide)]) (oo _ (by decide) (by decide) (by decide) (by decide) (by decide) (by decide) (by decide) (by decide) (by decide)) (by omega) h30
      · rw [hc] at q2
        exact absurd q2 (nI_m1 (by omega))
  · apply no
    unfold rowO
    rw [if_pos (by rw [u.2.2.1.2.1]; exact Int32.le_refl _)]

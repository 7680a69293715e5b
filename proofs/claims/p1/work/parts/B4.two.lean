/-! Two paths off the tape, on both sides. -/
def wB (Y : MI) (c : Int32) (R : RowV) : MI := fun a j => if a = 193 then R j else if a = 188 ∧ j = 17 then c else Y a j
theorem wB_R (Y : MI) (c : Int32) (R : RowV) : wB Y c R 193 = R := by
  funext j
  unfold wB
  rw [if_pos rfl]
theorem wB_c (Y : MI) (c : Int32) (R : RowV) : wB Y c R 188 17 = c := by
  unfold wB
  rw [if_neg (by decide), if_pos ⟨rfl, rfl⟩]
theorem wB_k (Y : MI) (c : Int32) (R : RowV) {k : Nat} (h : k ≠ 17) : wB Y c R 188 k = Y 188 k := by
  unfold wB
  rw [if_neg (by decide), if_neg (fun q => h q.2)]
theorem wB_o (Y : MI) (c : Int32) (R : RowV) {a : Nat} (h1 : a ≠ 188) (h2 : a ≠ 193) : wB Y c R a = Y a := by
  funext j
  unfold wB
  rw [if_neg h2, if_neg (fun q => h1 q.1)]
theorem wB_sR (Y : MI) (c : Int32) (R S : RowV) (p m : Int32) (i : Nat) (v : Int32) : up2 (pF (wB Y c R) p m S) 193 i v = pF (wB Y c (sD R i v)) p m S := by
  funext a j
  unfold up2 pF wB sD
  by_cases h : a = 193
  · subst h
    simp
  · simp [h]
theorem wB_sc (Y : MI) (c : Int32) (R S : RowV) (p m : Int32) (v : Int32) : up2 (pF (wB Y c R) p m S) 188 17 v = pF (wB Y v R) p m S := by
  funext a j
  unfold up2 pF wB
  by_cases h : a = 188 ∧ j = 17
  · rw [if_pos h, if_neg (by omega), if_neg (by omega), if_neg (by omega), if_neg (by omega), if_pos h]
  · simp [h]
theorem wB_id (Y : MI) : wB Y (Y 188 17) (Y 193) = Y := by
  funext a j
  unfold wB
  by_cases h : a = 193
  · rw [if_pos h, h]
  · rw [if_neg h]
    by_cases h3 : a = 188 ∧ j = 17
    · rw [if_pos h3, h3.1, h3.2]
    · rw [if_neg h3]
def swp (k : Nat) (s : RowV × RowV) : RowV × RowV := (sD s.1 k (s.2 k), sD s.2 k (s.1 k))
theorem swp_at : ∀ (n k : Nat) (s : RowV × RowV) (j : Nat), (itr swp k n s).1 j = (if k ≤ j ∧ j < k + n then s.2 j else s.1 j) ∧ (itr swp k n s).2 j = if k ≤ j ∧ j < k + n then s.1 j else s.2 j
  | 0, k, s, j => by
    rw [if_neg (by omega), if_neg (by omega)]
    exact ⟨rfl, rfl⟩
  | n + 1, k, s, j => by
    have e : itr swp k (n + 1) s = itr swp (k + 1) n (swp k s) := rfl
    obtain ⟨h1, h2⟩ := swp_at n (k + 1) (swp k s) j
    rw [e, h1, h2]
    have s1 : (swp k s).1 j = if j = k then s.2 k else s.1 j := rfl
    have s2 : (swp k s).2 j = if j = k then s.1 k else s.2 j := rfl
    rw [s1, s2]
    by_cases z : j = k
    · subst z
      have n1 : ¬ (j + 1 ≤ j ∧ j < j + 1 + n) := by omega
      have n2 : j ≤ j ∧ j < j + (n + 1) := by omega
      rw [if_pos rfl, if_pos rfl, if_neg n1, if_neg n1, if_pos n2, if_pos n2]
      exact ⟨rfl, rfl⟩
    · rw [if_neg z, if_neg z]
      by_cases w : k + 1 ≤ j ∧ j < k + 1 + n
      · rw [if_pos w, if_pos w, if_pos (by omega), if_pos (by omega)]
        exact ⟨rfl, rfl⟩
      · rw [if_neg w, if_neg w, if_neg (by omega), if_neg (by omega)]
        exact ⟨rfl, rfl⟩
/-- the reference's two paths laid out -/
theorem two_end {Y : MI} {J : MJ} (h : RefL J) (c : Int32) (R S : RowV) (p m : Int32) : ∃ R' S', Ev T_X10_areTwoPaths 106 [some (mR (some 188)), some (mI 0), none] [] (pF (wB Y c R) p m S, J) = some (some (mI 1), (pF (wB Y m R') p c S', J)) ∧ (∀ j, j < 12 → S' j = R j) ∧ ∀ j, j < 12 → R' j = S j := by
  have s1 := loop_all (fun k (s : RowV × RowV) => Ev T_X10_areTwoPaths 106 [some (mR (some 188)), some (mI (nI k)), none] [] (pF (wB Y c s.2) p m s.1, J)) swp 12 (S, R) (fun k s hk => by
    try dsimp only
    rw [E_X10_areTwoPaths_106, if_neg (show ¬ (12 : Int32) ≤ nI k from nI_ge (b := 12) hk (by decide))]
    have r193 : ∀ S', pF (wB Y c s.2) p m S' 193 = s.2 := fun S' => by rw [pF_o _ _ _ _ (by decide) (by decide), wB_R]
    simp only [h.f14, h.f16, Option.bind_some, ldx h.s14 (show k < 64 by omega) (by decide) rfl, ldx h.s16 (show k < 64 by omega) (by decide) rfl, stx h.s14 (show k < 64 by omega) (by decide) rfl, stx h.s16 (show k < 64 by omega) (by decide) rfl, pF_S, r193, pF_sS, wB_sR, nI_1]
    rfl)
  try dsimp only at s1
  rw [show (nI 0) = 0 from rfl] at s1
  refine ⟨(itr swp 0 12 (S, R)).2, (itr swp 0 12 (S, R)).1, ?_, fun j hj => ?_, fun j hj => ?_⟩
  · rw [s1, E_X10_areTwoPaths_106, if_pos (show (12 : Int32) ≤ nI 12 by decide)]
    generalize itr swp 0 12 (S, R) = s
    have f17 : ∀ R S m, pF (wB Y c R) p m S 188 17 = c := fun R S m => by rw [pF_k _ _ _ _ (by decide) (by decide), wB_c]
    simp only [h.fi, pF_15, f17, Option.bind_some, h.wi, pF_s15, wB_sc]
    simp
  · rw [(swp_at 12 0 (S, R) j).1, if_pos (by omega)]
  · rw [(swp_at 12 0 (S, R) j).2, if_pos (by omega)]
theorem path2 {I Y : MI} {J : MJ} {T : Nat} (h : RefL J) (t : Tap (vw 2 I 7) T) (e1 : Y 188 1 = nI T) (e2 : ∀ k, k < T → Y 189 k = I 8 k) : ∃ y Y', M_X10_areTwoPaths [mR (some 188)] (Y, J) = some (some (mI y), (Y', J)) ∧ (∀ x, x ≠ 188 → x ≠ 192 → x ≠ 193 → Y' x = Y x) ∧ (∀ k, k ≠ 1 → k ≠ 2 → k ≠ 3 → k ≠ 15 → k ≠ 17 → Y' 188 k = Y 188 k) ∧ Y' 188 1 = 0 ∧ (¬ I 1 6 ≤ 0 → ((rowO I T).1 = 2 ∧ y = 1 ∧ ∃ l l2, l ≤ 12 ∧ l2 ≤ 12 ∧ Y' 188 15 = nI l ∧ Y' 188 17 = nI l2 ∧ Pth (vw 2 (rowO I T).2 158) (Y' 192) l ∧ Pth (vw 2 (rowO I T).2 160) (Y' 193) l2) ∨ (¬ (rowO I T).1 = 2 ∧ y = 0)) := by
  have T4 := t.1
  have rt : RTap (bgP Y T) (vw 2 I 7) T := ⟨t, (bgP_3 Y T).1, fun k hk => by rw [bgP_o _ _ (by decide)]; exact e2 k hk⟩
  have rt2 : ∀ c R, RTap (wB (bgP Y T) c R) (vw 2 I 7) T := fun c R => ⟨t, by rw [wB_k _ _ _ (by decide)]; exact (bgP_3 Y T).1, fun k hk => by rw [wB_o _ _ _ (by decide) (by decide), bgP_o _ _ (by decide)]; exact e2 k hk⟩
  have fr1 : ∀ p m S, (∀ x, x ≠ 188 → x ≠ 192 → x ≠ 193 → pF (bgP Y T) p m S x = Y x) ∧ (∀ k, k ≠ 1 → k ≠ 2 → k ≠ 3 → k ≠ 15 → k ≠ 17 → pF (bgP Y T) p m S 188 k = Y 188 k) ∧ pF (bgP Y T) p m S 188 1 = 0 := fun p m S => ⟨fun x a b _ => by rw [pF_o _ _ _ _ a b, bgP_o _ _ a], fun k a b c d _ => by rw [pF_k _ _ _ _ b d, bgP_k _ _ a b c], by rw [pF_k _ _ _ _ (by decide) (by decide)]; exact (bgP_3 _ _).2.1⟩
  have fr2 : ∀ c R p m S, (∀ x, x ≠ 188 → x ≠ 192 → x ≠ 193 → pF (wB (bgP Y T) c R) p m S x = Y x) ∧ (∀ k, k ≠ 1 → k ≠ 2 → k ≠ 3 → k ≠ 15 → k ≠ 17 → pF (wB (bgP Y T) c R) p m S 188 k = Y 188 k) ∧ pF (wB (bgP Y T) c R) p m S 188 1 = 0 := fun c R p m S => ⟨fun x a b d => by rw [pF_o _ _ _ _ a b, wB_o _ _ _ a d, bgP_o _ _ a], fun k a b c d e => by rw [pF_k _ _ _ _ b d, wB_k _ _ _ e, bgP_k _ _ a b c], by rw [pF_k _ _ _ _ (by decide) (by decide), wB_k _ _ _ (by decide)]; exact (bgP_3 _ _).2.1⟩
  obtain ⟨to, o1, o2, o3, o4⟩ := ex_first (fun k => vw 2 I 7 1 k = 32) 0 T (Nat.zero_le _)
  have o5 : to = T ∨ (to < T ∧ vw 2 I 7 1 to = 32) := by
    rcases Nat.eq_or_lt_of_le o2 with z | z
    · exact Or.inl z
    · exact Or.inr ⟨z, o4.resolve_left (by omega)⟩
  obtain ⟨y, p', l', S', g1, g2, g3⟩ := w_isPathHere rt h (Nat.zero_le to) o2 o4 o3 (bgP Y T 188 15) (bgP Y T 192) (vw 2 I 158)
  have z0 : nI 0 = 0 := rfl
  rw [z0, pF_bg] at g1
  have g3' : ∀ p m S, pF (bgP Y T) p m S 188 3 = nI T := fun p m S => by rw [pF_k _ _ _ _ (by decide) (by decide)]; exact (bgP_3 Y T).1
  have row : ¬ I 1 6 ≤ 0 → rowO I T = if q_X4_readFrom 12 (vw 2 I 7) (vw 2 I 158) (nI 0) (nI to) = 0 then (-1, pt I 158 (gP_X4_readFrom 12 (vw 2 I 7) (vw 2 I 158) (nI 0) (nI to))) else lpRow T (vw 2 I 7) (T - to) (to + 1) 1 (to + 1) (pt I 158 (gP_X4_readFrom 12 (vw 2 I 7) (vw 2 I 158) (nI 0) (nI to))) := by
    intro q
    unfold rowO
    rw [if_neg q, lpRow_scan t o2 to (T + 1) 0 0 0 I (by omega) (by omega) (fun k a b => o3 k a b), show T + 1 - to = (T - to) + 1 by omega, lpRow_end t o5 _ _ _ _ (by decide)]
    rfl
  -- the reference's first part
  have st1 : M_X10_areTwoPaths [mR (some 188)] (Y, J) = if y = 0 then some (some (mI 0), (pF (bgP Y T) (nI p') (nI l') S', J)) else if nI p' = nI T then some (some (mI 0), (pF (bgP Y T) (nI p') (nI l') S', J)) else (ld (pF (bgP Y T) (nI p') (nI l') S', J) 11 189 (nI p')).bind fun v8 => if v8 = 32 then Ev T_X10_areTwoPaths 58 [some (mR (some 188)), some (mI 0), none] [] (pF (wB (bgP Y T) (nI l') (bgP Y T 193)) (nI (p' + 1)) (nI l') S', J) else some (some (mI 0), (pF (bgP Y T) (nI p') (nI l') S', J)) := by
    rw [E_X10_areTwoPaths]
    have eq : up2 (pF (bgP Y T) (nI (p' + 1)) (nI l') S') 188 17 (nI l') = pF (wB (bgP Y T) (nI l') (bgP Y T 193)) (nI (p' + 1)) (nI l') S' := by
      have z := wB_sc (bgP Y T) (bgP Y T 188 17) (bgP Y T 193) S' (nI (p' + 1)) (nI l') (nI l')
      rw [wB_id] at z
      exact z
    simp only [h.kt, if_true, w_beginsPaths h Y e1, Option.bind_some, asV_n, g1, asI_I, h.fi, pF_2, g3', h.f0, h.wi, pF_s2, pF_15, nI_1, eq]
    simp
  rcases g3 with ⟨c1, c2, c3, c4, c5⟩ | ⟨c1, c2⟩
  · subst c2 c3
    rw [if_neg i10] at st1
    rcases o5 with e | ⟨e, eb⟩
    · subst e
      rw [if_pos rfl] at st1
      refine ⟨0, _, st1, (fr1 _ _ _).1, (fr1 _ _ _).2.1, (fr1 _ _ _).2.2, fun q => Or.inr ⟨?_, rfl⟩⟩
      rw [row q, c1, if_neg i10, Nat.sub_self]
      exact (by decide : ¬ nI 1 = 2)
    · rw [if_neg (fun w => absurd ((nI_eq (by omega) (by omega)).mp w) (by omega)), rt.ld h _ _ S' e rfl, Option.bind_some, eb, if_pos rfl] at st1
      -- the copies
      have cp := loop_all (fun k R => Ev T_X10_areTwoPaths 58 [some (mR (some 188)), some (mI (nI k)), none] [] (pF (wB (bgP Y T) (nI l') R) (nI (p' + 1)) (nI l') S', J)) (fun k R => sD R (0 + k) (S' k)) l' (bgP Y T 193) (fun k R hk => by
        try dsimp only
        rw [E_X10_areTwoPaths_58]
        simp only [h.fi, pF_15, Option.bind_some, if_neg (nI_ge hk (by omega)), h.f14, h.f16, ldx h.s14 (show k < 64 by omega) (by decide) rfl, stx h.s16 (show k < 64 by omega) (by decide) rfl, pF_S, wB_sR, nI_1, Nat.zero_add])
      try dsimp only at cp
      rw [z0] at cp
      rw [cp] at st1
      generalize hR : itr (fun k R => sD R (0 + k) (S' k)) 0 l' (bgP Y T 193) = R1 at st1
      have r1 : ∀ j, j < l' → R1 j = S' j := fun j hj => by
        rw [← hR, itr_sD, if_pos (by omega)]
        rfl
      obtain ⟨to2, q1, q2, q3, q4⟩ := ex_first (fun k => vw 2 I 7 1 k = 32) (p' + 1) T (by omega)
      have q5 : to2 = T ∨ (to2 < T ∧ vw 2 I 7 1 to2 = 32) := by
        rcases Nat.eq_or_lt_of_le q2 with z | z
        · exact Or.inl z
        · exact Or.inr ⟨z, q4.resolve_left (by omega)⟩
      generalize hP1 : pt I 158 (gP_X4_readFrom 12 (vw 2 I 7) (vw 2 I 158) (nI 0) (nI p')) = X1 at row
      have row2 : ¬ I 1 6 ≤ 0 → rowO I T = if q_X4_readFrom 12 (vw 2 I 7) (vw 2 X1 160) (nI (p' + 1)) (nI to2) = 0 then (-1, pt X1 160 (gP_X4_readFrom 12 (vw 2 I 7) (vw 2 X1 160) (nI (p' + 1)) (nI to2))) else lpRow T (vw 2 I 7) (T - to2) (to2 + 1) 2 (to2 + 1) (pt X1 160 (gP_X4_readFrom 12 (vw 2 I 7) (vw 2 X1 160) (nI (p' + 1)) (nI to2))) := by
        intro q
        rw [row q, c1, if_neg i10, lpRow_scan t q2 (to2 - (p' + 1)) (T - p') (p' + 1) 1 (p' + 1) _ (by omega) (by omega) (fun k a b => q3 k a b), show T - p' - (to2 - (p' + 1)) = (T - to2) + 1 by omega, lpRow_end t q5 _ _ _ _ (by decide)]
        rfl
      obtain ⟨y2, p2, l2, S2, k1, k2, k3⟩ := w_isPathHere (rt2 (nI l') R1) h q1 q2 q4 q3 (nI l') S' (vw 2 X1 160)
      have st2 : Ev T_X10_areTwoPaths 58 [some (mR (some 188)), some (mI (nI l')), none] [] (pF (wB (bgP Y T) (nI l') R1) (nI (p' + 1)) (nI l') S', J) = if y2 = 0 then some (some (mI 0), (pF (wB (bgP Y T) (nI l') R1) (nI p2) (nI l2) S2, J)) else if nI p2 = nI T then Ev T_X10_areTwoPaths 106 [some (mR (some 188)), some (mI 0), none] [] (pF (wB (bgP Y T) (nI l') R1) (nI p2) (nI l2) S2, J) else some (some (mI 0), (pF (wB (bgP Y T) (nI l') R1) (nI p2) (nI l2) S2, J)) := by
        have g3'' : ∀ p m S, pF (wB (bgP Y T) (nI l') R1) p m S 188 3 = nI T := fun p m S => by rw [pF_k _ _ _ _ (by decide) (by decide)]; exact (rt2 _ _).2.1
        rw [E_X10_areTwoPaths_58]
        simp only [h.fi, pF_15, Option.bind_some, if_pos (Int32.le_refl (nI l')), h.kt, if_true, k1, asI_I, pF_2, g3'']
        simp
      rw [st2] at st1
      have no : ∀ p m S, ¬ (¬ I 1 6 ≤ 0 ∧ (rowO I T).1 = 2) → M_X10_areTwoPaths [mR (some 188)] (Y, J) = some (some (mI 0), (pF (wB (bgP Y T) (nI l') R1) p m S, J)) → ∃ y Y', M_X10_areTwoPaths [mR (some 188)] (Y, J) = some (some (mI y), (Y', J)) ∧ (∀ x, x ≠ 188 → x ≠ 192 → x ≠ 193 → Y' x = Y x) ∧ (∀ k, k ≠ 1 → k ≠ 2 → k ≠ 3 → k ≠ 15 → k ≠ 17 → Y' 188 k = Y 188 k) ∧ Y' 188 1 = 0 ∧ (¬ I 1 6 ≤ 0 → ((rowO I T).1 = 2 ∧ y = 1 ∧ ∃ l l2, l ≤ 12 ∧ l2 ≤ 12 ∧ Y' 188 15 = nI l ∧ Y' 188 17 = nI l2 ∧ Pth (vw 2 (rowO I T).2 158) (Y' 192) l ∧ Pth (vw 2 (rowO I T).2 160) (Y' 193) l2) ∨ (¬ (rowO I T).1 = 2 ∧ y = 0)) := fun p m S hn e => ⟨0, _, e, (fr2 _ _ _ _ _).1, (fr2 _ _ _ _ _).2.1, (fr2 _ _ _ _ _).2.2, fun q => Or.inr ⟨fun w => hn ⟨q, w⟩, rfl⟩⟩
      rcases k3 with ⟨d1, d2, d3, d4, d5⟩ | ⟨d1, d2⟩
      · subst d2 d3
        rw [if_neg i10] at st1
        rcases q5 with e' | ⟨e', eb'⟩
        · subst e'
          rw [if_pos rfl] at st1
          obtain ⟨R', S'', w1, w2, w3⟩ := two_end (Y := bgP Y p2) h (nI l') R1 S2 (nI p2) (nI l2)
          rw [w1] at st1
          refine ⟨1, _, st1, (fr2 _ _ _ _ _).1, (fr2 _ _ _ _ _).2.1, (fr2 _ _ _ _ _).2.2, fun q => Or.inl ?_⟩
          rw [row2 q, d1, if_neg i10, Nat.sub_self]
          refine ⟨rfl, rfl, l', l2, c4, d4, pF_15 _ _ _ _, by rw [pF_k _ _ _ _ (by decide) (by decide), wB_c], ?_, ?_⟩
          · show Pth (vw 2 (pt X1 160 _) 158) _ l'
            rw [vw_out _ _ (by decide), ← hP1, vw_pt, pF_S]
            refine ⟨c5.1, fun k hk => ?_⟩
            rw [w2 k (by omega), r1 k hk]
            exact c5.2 k hk
          · show Pth (vw 2 (pt X1 160 _) 160) _ l2
            rw [vw_pt, pF_o _ _ _ _ (by decide) (by decide), wB_R]
            refine ⟨d5.1, fun k hk => ?_⟩
            rw [w3 k (by omega)]
            exact d5.2 k hk
        · rw [if_neg (fun w => absurd ((nI_eq (by omega) (by omega)).mp w) (by omega))] at st1
          refine no _ _ _ ?_ st1
          rintro ⟨q, z⟩
          rw [row2 q, d1, if_neg i10] at z
          obtain ⟨to3, a1, a2, a3, a4⟩ := ex_first (fun k => vw 2 I 7 1 k = 32) (p2 + 1) T (by omega)
          rw [lpRow_scan t a2 (to3 - (p2 + 1)) (T - p2) (p2 + 1) 2 (p2 + 1) _ (by omega) (by omega) (fun k a b => a3 k a b), show T - p2 - (to3 - (p2 + 1)) = (T - to3) + 1 by omega, lpRow_end t (by rcases a4 with z | z; exact Or.inl z; rcases Nat.eq_or_lt_of_le a2 with w | w; exact Or.inl w; exact Or.inr ⟨w, z⟩) _ _ _ _ (by decide)] at z
          split at z
          · exact absurd (show (-1 : Int32) = 2 from z) (by decide)
          · generalize pt (pt X1 160 _) (rr 158 2) _ = X3 at z
            rcases lpRow_ge T (vw 2 I 7) (T - to3) (to3 + 1) (2 + 1) (to3 + 1) X3 (by decide) with y | ⟨c', c1', c2', c3'⟩
            · rw [y] at z
              exact absurd z (by decide)
            · rw [c3'] at z
              have : c' = 2 := (nI_eq (b := 2) (by omega) (by decide)).mp z
              omega
      · have nr : ¬ (¬ I 1 6 ≤ 0 ∧ (rowO I T).1 = 2) := by
          rintro ⟨q, z⟩
          rw [row2 q, d1, if_pos rfl] at z
          exact absurd (show (-1 : Int32) = 2 from z) (by decide)
        rcases d2 with z | ⟨z1, z2, z3⟩
        · rw [if_pos z] at st1
          exact no _ _ _ nr st1
        · rw [if_neg (by rw [z1]; exact i10), if_neg (fun w => absurd ((nI_eq (by omega) (by omega)).mp w) (by omega))] at st1
          exact no _ _ _ nr st1
  · have nr : ¬ I 1 6 ≤ 0 → ¬ (rowO I T).1 = 2 := fun q => by
      rw [row q, c1, if_pos rfl]
      exact (by decide : ¬ (-1 : Int32) = 2)
    rcases c2 with z | ⟨z1, z2, z3⟩
    · rw [if_pos z] at st1
      exact ⟨0, _, st1, (fr1 _ _ _).1, (fr1 _ _ _).2.1, (fr1 _ _ _).2.2, fun q => Or.inr ⟨nr q, rfl⟩⟩
    · rw [if_neg (by rw [z1]; exact i10), if_neg (fun w => absurd ((nI_eq (by omega) (by omega)).mp w) (by omega)), rt.ld h _ _ S' z2 rfl, Option.bind_some, if_neg z3.1] at st1
      exact ⟨0, _, st1, (fr1 _ _ _).1, (fr1 _ _ _).2.1, (fr1 _ _ _).2.2, fun q => Or.inr ⟨nr q, rfl⟩⟩
/-- what a renaming begins with -/
theorem act_pre2 {I : MI} {J : MJ} {T B0 n : Nat} (h : St I J T B0) (h30 : T + 10001 ≤ 1000000000) (td : Told I J T B0) (t1 : Tap (vw 2 I 7) n) (t2 : I 188 1 = nI n) (t3 : ∀ k, k < n → I 189 k = I 8 k) (hy : (rowO I n).1 = 2) : ∃ vol nn t X J1, I 188 11 = nI vol ∧ Inv (vw 6 I 1) (vw 12 I 17) (vw 1 I 29) (wks I 31) nn vol t T (fun _ => 0) ∧ CntI (vw 12 I 17) ∧ Rel none (vw 6 I 1) (vw 12 I 17) (vw 1 I 29) (wks I 31) (I 194) nn ∧ M_X0_keep [mR (some 67), mR (some 16)] (tkn I n, J) = some (none, (X, J1)) ∧ KL J1 ∧ RefL J1 ∧ WF I X ∧ X 186 = I 186 ∧ ∀ I1, (∀ x, (7 ≤ x ∧ x < 17) ∨ 55 ≤ x ∨ x = 0 → x ≠ 186 → I1 x = X x) → ∃ Z Y1 l' l2, M_X10_areTwoPaths [mR (some 188)] (I1, J1) = some (some (mI 1), (Y1, J1)) ∧ ¬ bz (Y1 188 13) = 0 ∧ M_X10_keeps [mR (some 188)] (Y1, J1) = some (none, (Z, J1)) ∧ l' ≤ 12 ∧ Pth (vw 2 X 158) (Z 192) l' ∧ Z 188 15 = nI l' ∧ l2 ≤ 12 ∧ Pth (vw 2 X 160) (Z 193) l2 ∧ Z 188 17 = nI l2 ∧ Z 194 = I 194 ∧ Z 188 20 = -1 ∧ Z 188 21 = -1 ∧ (∀ x, x < 188 → Z x = I1 x) ∧ Z 190 = I 190 ∧ ∀ I2, (∀ x, x ≠ 188 → x ≠ 190 → x ≠ 194 → x ≠ 195 → I2 x = Z x) → (∀ k, k ≠ 22 → I2 188 k = Z 188 k) → S3 I2 → Wd I2 1 17 29 31 (I2 194) vol (T + 10001) → St I2 J1 (T + 10001) B0 := by
  obtain ⟨vol, p, q, nn, t, X, J1, hv, htd, ⟨hp, p20, hq, q20⟩, h6, i, c, r, k1, kf, e1, e2, e3, e4, e5, e5', e16⟩ := td.pre (n := n) h h30
  have xo := kf.2.2.2.1
  refine ⟨vol, nn, t, X, J1, hv, i, c, r, k1, kf.1, kf.2.1, ⟨e1, e2, e3, e4, e16⟩, by rw [xo 186 (by decide) (by decide), tkn_o _ _ (by decide) (by decide)], fun I1 x1 => ?_⟩
  have lowX : ∀ x, 188 ≤ x → x < 208 → I1 x = I x := fun x a b => by rw [x1 x (by omega) (by omega), xo x (by omega) (by omega), tkn_o _ _ (by omega) (by omega)]
  obtain ⟨y, Y1, g1, g2, g3, g4, g5⟩ := path2 (I := I) (Y := I1) kf.2.1 t1 (by rw [lowX 188 (by decide) (by decide)]; exact t2) (fun k hk => by rw [lowX 189 (by decide) (by decide)]; exact t3 k hk)
  rcases g5 h6 with ⟨_, y1, l, l2, l12, l212, f15, f17, pth, pth2⟩ | ⟨z, _⟩
  · subst y1
    have eP : ∀ a, 158 ≤ a → a + 2 ≤ 183 → vw 2 (rowO I n).2 a = vw 2 (tkn I n) a := fun a ha hb => (vw_fr (fun x _ _ => tkn_r I n (by omega) (by omega))).symm
    rw [eP 158 (by decide) (by decide), ← e5] at pth
    rw [eP 160 (by decide) (by decide), ← e5'] at pth2
    have hk := w_keeps (J := J1) kf.2.1 Y1 (p := p) (q := q) (by rw [g3 29 (by decide) (by decide) (by decide) (by decide) (by decide), lowX 188 (by decide) (by decide)]; exact hp) p20 (by rw [g3 28 (by decide) (by decide) (by decide) (by decide) (by decide), lowX 188 (by decide) (by decide)]; exact hq) q20
    have zo := fun x a b => kpR_o Y1 ((p + 1) % 20) (min (q + 1) 20) (x := x) a b
    have zk := fun k a b => kpR_k Y1 ((p + 1) % 20) (min (q + 1) 20) (k := k) a b
    have za := kpR_a Y1 ((p + 1) % 20) (min (q + 1) 20)
    have zz := kpR_29 Y1 ((p + 1) % 20) (min (q + 1) 20)
    generalize hZ : kpR Y1 ((p + 1) % 20) (min (q + 1) 20) = Z at hk zo zk za zz
    have yk : ∀ k, k ≠ 1 → k ≠ 2 → k ≠ 3 → k ≠ 15 → k ≠ 17 → Y1 188 k = I 188 k := fun k a b c d e => by rw [g3 k a b c d e, lowX 188 (by decide) (by decide)]
    have zf : ∀ k, k ≠ 1 → k ≠ 2 → k ≠ 3 → k ≠ 15 → k ≠ 17 → k ≠ 28 → k ≠ 29 → Z 188 k = I 188 k := fun k a b c d e f g => by rw [zk k f g, yk k a b c d e]
    have s8 := h.2.2.2.2.2.2.2.2.1
    have y94 : Y1 194 = I 194 := by rw [g2 194 (by decide) (by decide) (by decide), lowX 194 (by decide) (by decide)]
    refine ⟨Z, Y1, l, l2, g1, ?_, hk, l12, ?_, ?_, l212, ?_, ?_, ?_, ?_, ?_, fun x hx => ?_, ?_, fun I2 a b s3 w => ?_⟩
    · rw [yk 13 (by decide) (by decide) (by decide) (by decide) (by decide)]; exact htd
    · rw [zo 192 (by decide) (by decide)]; exact pth
    · rw [zk 15 (by decide) (by decide)]; exact f15
    · rw [zo 193 (by decide) (by decide)]; exact pth2
    · rw [zk 17 (by decide) (by decide)]; exact f17
    · rw [zo 194 (by decide) (by decide)]; exact y94
    · rw [zf 20 (by decide) (by decide) (by decide) (by decide) (by decide) (by decide) (by decide)]; exact s8.1
    · rw [zf 21 (by decide) (by decide) (by decide) (by decide) (by decide) (by decide) (by decide)]; exact s8.2
    · rw [zo x (by omega) (by omega), g2 x (by omega) (by omega) (by omega)]
    · rw [zo 190 (by decide) (by decide), g2 190 (by decide) (by decide) (by decide), lowX 190 (by decide) (by decide)]
    · have low : ∀ x, (8 ≤ x ∧ x < 17) ∨ (55 ≤ x ∧ x < 158) ∨ (183 ≤ x ∧ x < 208) ∨ x = 0 → x ≠ 67 → x ≠ 186 → x ≠ 188 → x ≠ 190 → x ≠ 192 → x ≠ 193 → x ≠ 194 → x ≠ 195 → x ≠ 199 → I2 x = I x := fun x h1 h2 h3 h4 h5 h6 h7 h8 h9 h10 => by
        rw [a x h4 h5 h8 h9, zo x h4 h10, g2 x h4 h6 h7, x1 x (by omega) h3, xo x (by omega) h2, tkn_o _ _ (by omega) (by omega)]
      have fld : ∀ k, k ≠ 1 → k ≠ 2 → k ≠ 3 → k ≠ 15 → k ≠ 17 → k ≠ 22 → k ≠ 28 → k ≠ 29 → I2 188 k = I 188 k := fun k a1 a2 a3 a4 a5 a6 a7 a8 => by rw [b k a6, zf k a1 a2 a3 a4 a5 a7 a8]
      have e199 : I2 199 = Z 199 := a 199 (by decide) (by decide) (by decide) (by decide)
      refine h.act h30 hv htd kf (tkn_o _ _ (by decide) (by decide)) (S1.emp ?_ ?_) s3 ⟨low 9 (by omega) (by decide) (by decide) (by decide) (by decide) (by decide) (by decide) (by decide) (by decide) (by decide), low 69 (by omega) (by decide) (by decide) (by decide) (by decide) (by decide) (by decide) (by decide) (by decide) (by decide), fun x a b => low x (by omega) (by omega) (by omega) (by omega) (by omega) (by omega) (by omega) (by omega) (by omega) (by omega), low 202 (by omega) (by decide) (by decide) (by decide) (by decide) (by decide) (by decide) (by decide) (by decide) (by decide), low 203 (by omega) (by decide) (by decide) (by decide) (by decide) (by decide) (by decide) (by decide) (by decide) (by decide), fun k a => fld k (by omega) (by omega) (by omega) (by omega) (by omega) (by omega) (by omega) (by omega)⟩ (h.2.2.2.2.1.fr (by rw [low 0 (by omega) (by decide) (by decide) (by decide) (by decide) (by decide) (by decide) (by decide) (by decide) (by decide)]) (low 185 (by omega) (by decide) (by decide) (by decide) (by decide) (by decide) (by decide) (by decide) (by decide) (by decide)) (fld 25 (by decide) (by decide) (by decide) (by decide) (by decide) (by decide) (by decide) (by decide)) (low 197 (by omega) (by decide) (by decide) (by decide) (by decide) (by decide) (by decide) (by decide) (by decide) (by decide))) (h.2.2.2.2.2.1.fr (by rw [low 0 (by omega) (by decide) (by decide) (by decide) (by decide) (by decide) (by decide) (by decide) (by decide) (by decide)]) (low 187 (by omega) (by decide) (by decide) (by decide) (by decide) (by decide) (by decide) (by decide) (by decide) (by decide)) (fld 32 (by decide) (by decide) (by decide) (by decide) (by decide) (by decide) (by decide) (by decide)) (low 201 (by omega) (by decide) (by decide) (by decide) (by decide) (by decide) (by decide) (by decide) (by decide) (by decide))) w ?_ ?_ ?_ ?_ ?_ ?_
      · rw [a 7 (by decide) (by decide) (by decide) (by decide), zo 7 (by decide) (by decide), g2 7 (by decide) (by decide) (by decide), x1 7 (by omega) (by decide), xo 7 (by decide) (by decide)]
        exact tkn_7 I n
      · rw [b 1 (by decide), zk 1 (by decide) (by decide)]; exact g4
      · rw [a 67 (by decide) (by decide) (by decide) (by decide), zo 67 (by decide) (by decide), g2 67 (by decide) (by decide) (by decide), x1 67 (by omega) (by decide)]
      · intro y hy
        rw [a y (by omega) (by omega) (by omega) (by omega), zo y (by omega) (by omega), g2 y (by omega) (by omega) (by omega), x1 y (by omega) (by omega)]
      · rw [b 28 (by decide)]; exact zz.2
      · rw [b 29 (by decide)]; exact zz.1
      · intro k hk
        rw [e199, za.1 k hk, y94]
      · intro s k _ hs hk
        rw [e199, za.2 s k hs hk, g2 199 (by decide) (by decide) (by decide), lowX 199 (by decide) (by decide)]
  · exact absurd hy z

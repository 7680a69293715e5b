/-! Paths taken off the tape, on both sides. -/
theorem rr_in {c : Nat} (hc : c < 12) : 158 ≤ rr 158 c ∧ rr 158 c + 2 ≤ 183 := by
  unfold rr
  split <;> omega
theorem lpRow_out (T : Nat) (Q : RouV) : ∀ (f fr c pos : Nat) (I : MI) {x : Nat}, (x < 158 ∨ 183 ≤ x) → (lpRow T Q f fr c pos I).2 x = I x
  | 0, fr, c, pos, I, x, _ => rfl
  | f + 1, fr, c, pos, I, x, h => by
    unfold lpRow
    by_cases a : pos < T ∧ ¬ q_X5_at Q (nI pos) = 32
    · rw [if_pos a]; exact lpRow_out T Q f fr c (pos + 1) I h
    · rw [if_neg a]
      by_cases b : 12 ≤ c
      · rw [if_pos b]
      · have := rr_in (show c < 12 by omega)
        have o : ∀ P : RouV, pt I (rr 158 c) P x = I x := fun P => pt_out (by omega)
        rw [if_neg b]
        split
        · exact o _
        · rw [lpRow_out T Q f _ _ _ _ h]
          exact o _
/-- the bytes of one path are passed over -/
theorem lpRow_scan {Q : RouV} {T : Nat} (t : Tap Q T) {to : Nat} (hto : to ≤ T) : ∀ (n f fr c pos : Nat) (I : MI), pos + n = to → n ≤ f → (∀ k, pos ≤ k → k < to → ¬ Q 1 k = 32) → lpRow T Q f fr c pos I = lpRow T Q (f - n) fr c to I
  | 0, f, fr, c, pos, I, h, _, _ => by
    have : pos = to := by omega
    rw [this]
    rfl
  | n + 1, 0, fr, c, pos, I, h, hf, _ => by omega
  | n + 1, f + 1, fr, c, pos, I, h, hf, hb => by
    rw [lpRow, if_pos ⟨by omega, by rw [t.in (by omega)]; exact hb pos (Nat.le_refl _) (by omega)⟩, lpRow_scan t hto n f fr c (pos + 1) I (by omega) (by omega) (fun k a b => hb k (by omega) b), show f + 1 - (n + 1) = f - n by omega]
/-- at the end of one path -/
theorem lpRow_end {Q : RouV} {T : Nat} (t : Tap Q T) {to : Nat} (hend : to = T ∨ (to < T ∧ Q 1 to = 32)) (f fr c : Nat) (I : MI) (hc : c < 12) : lpRow T Q (f + 1) fr c to I = if q_X4_readFrom 12 Q (vw 2 I (rr 158 c)) (nI fr) (nI to) = 0 then (-1, pt I (rr 158 c) (gP_X4_readFrom 12 Q (vw 2 I (rr 158 c)) (nI fr) (nI to))) else lpRow T Q f (to + 1) (c + 1) (to + 1) (pt I (rr 158 c) (gP_X4_readFrom 12 Q (vw 2 I (rr 158 c)) (nI fr) (nI to))) := by
  rw [lpRow, if_neg, if_neg (by omega)]
  rintro ⟨z1, z2⟩
  rcases hend with y | ⟨y1, y2⟩
  · omega
  · rw [t.in y1] at z2
    exact z2 y2
/-- the count only grows -/
theorem lpRow_ge (T : Nat) (Q : RouV) : ∀ (f fr c pos : Nat) (I : MI), c ≤ 12 → (lpRow T Q f fr c pos I).1 = -1 ∨ ∃ c', c ≤ c' ∧ c' ≤ 12 ∧ (lpRow T Q f fr c pos I).1 = nI c'
  | 0, fr, c, pos, I, h => Or.inr ⟨c, Nat.le_refl _, h, rfl⟩
  | f + 1, fr, c, pos, I, h => by
    unfold lpRow
    by_cases a : pos < T ∧ ¬ q_X5_at Q (nI pos) = 32
    · rw [if_pos a]; exact lpRow_ge T Q f fr c (pos + 1) I h
    · rw [if_neg a]
      by_cases b : 12 ≤ c
      · rw [if_pos b]; exact Or.inl rfl
      · rw [if_neg b]
        split
        · exact Or.inl rfl
        · rcases lpRow_ge T Q f (pos + 1) (c + 1) (pos + 1) (pt I (rr 158 c) (gP_X4_readFrom 12 Q (vw 2 I (rr 158 c)) (nI fr) (nI pos))) (by omega) with z | ⟨c', c1, c2, c3⟩
          · exact Or.inl z
          · exact Or.inr ⟨c', by omega, c2, c3⟩
/-- the reference's heap where it begins to read -/
def bgP (I : MI) (T : Nat) : MI := up2 (up2 (up2 I 188 3 (nI T)) 188 1 0) 188 2 0
theorem w_beginsPaths {J : MJ} (h : RefL J) (I : MI) {T : Nat} (ht : I 188 1 = nI T) : M_X10_beginsPaths [mR (some 188)] (I, J) = some (none, (bgP I T, J)) := by
  rw [E_X10_beginsPaths]
  simp only [h.fi, Option.bind_some, h.wi, ht]
  rfl
theorem bgP_o (I : MI) (T : Nat) {x : Nat} (h : x ≠ 188) : bgP I T x = I x := by
  unfold bgP
  rw [up2_o _ _ _ h, up2_o _ _ _ h, up2_o _ _ _ h]
theorem bgP_k (I : MI) (T : Nat) {k : Nat} (h1 : k ≠ 1) (h2 : k ≠ 2) (h3 : k ≠ 3) : bgP I T 188 k = I 188 k := by
  unfold bgP
  rw [up2_k _ _ _ h2, up2_k _ _ _ h1, up2_k _ _ _ h3]
theorem bgP_3 (I : MI) (T : Nat) : bgP I T 188 3 = nI T ∧ bgP I T 188 1 = 0 ∧ bgP I T 188 2 = 0 := by
  unfold bgP
  simp [up2]
theorem pF_bg (I : MI) (T : Nat) : pF (bgP I T) 0 (bgP I T 188 15) (bgP I T 192) = bgP I T := by
  have := pF_id (bgP I T)
  rw [(bgP_3 I T).2.2] at this
  exact this
/-- the class's row of paths and the reference's one path -/
theorem path1 {I Y : MI} {J : MJ} {T : Nat} (h : RefL J) (t : Tap (vw 2 I 7) T) (e1 : Y 188 1 = nI T) (e2 : ∀ k, k < T → Y 189 k = I 8 k) : ∃ y p' l' S', M_X10_isPath [mR (some 188)] (Y, J) = some (some (mI y), (pF (bgP Y T) (nI p') (nI l') S', J)) ∧ (¬ I 1 6 ≤ 0 → ((rowO I T).1 = 1 ∧ y = 1 ∧ l' ≤ 12 ∧ Pth (vw 2 (rowO I T).2 158) S' l') ∨ (¬ (rowO I T).1 = 1 ∧ y = 0)) := by
  have T4 := t.1
  have rt : RTap (bgP Y T) (vw 2 I 7) T := ⟨t, (bgP_3 Y T).1, fun k hk => by rw [bgP_o _ _ (by decide)]; exact e2 k hk⟩
  obtain ⟨to, o1, o2, o3, o4⟩ := ex_first (fun k => vw 2 I 7 1 k = 32) 0 T (Nat.zero_le _)
  obtain ⟨y, p', l', S', g1, g2, g3⟩ := w_isPathHere rt h (Nat.zero_le to) o2 o4 o3 (bgP Y T 188 15) (bgP Y T 192) (vw 2 I 158)
  have z0 : nI 0 = 0 := rfl
  rw [z0, pF_bg] at g1
  have w : M_X10_isPath [mR (some 188)] (Y, J) = (if y = 0 then some (some (mI 0), (pF (bgP Y T) (nI p') (nI l') S', J)) else if nI p' = nI T then some (some (mI 1), (pF (bgP Y T) (nI p') (nI l') S', J)) else some (some (mI 0), (pF (bgP Y T) (nI p') (nI l') S', J))) := by
    rw [E_X10_isPath]
    simp only [h.kt, if_true, w_beginsPaths h Y e1, Option.bind_some, asV_n, g1, asI_I, h.fi, pF_2, pF_k _ _ _ _ (show (3 : Nat) ≠ 2 by decide) (show (3 : Nat) ≠ 15 by decide), (bgP_3 Y T).1]
    simp
  rw [w]
  have row : ¬ I 1 6 ≤ 0 → rowO I T = if q_X4_readFrom 12 (vw 2 I 7) (vw 2 I 158) (nI 0) (nI to) = 0 then (-1, pt I 158 (gP_X4_readFrom 12 (vw 2 I 7) (vw 2 I 158) (nI 0) (nI to))) else lpRow T (vw 2 I 7) (T - to) (to + 1) 1 (to + 1) (pt I 158 (gP_X4_readFrom 12 (vw 2 I 7) (vw 2 I 158) (nI 0) (nI to))) := by
    intro q
    unfold rowO
    rw [if_neg q, lpRow_scan t o2 to (T + 1) 0 0 0 I (by omega) (by omega) (fun k a b => o3 k a b), show T + 1 - to = (T - to) + 1 by omega, lpRow_end t (by rcases o4 with z | z; exact Or.inl z; rcases Nat.eq_or_lt_of_le o2 with w | w; exact Or.inl w; exact Or.inr ⟨w, z⟩) _ _ _ _ (by decide)]
    rfl
  rcases g3 with ⟨c1, c2, c3, c4, c5⟩ | ⟨c1, c2⟩
  · subst c2 c3
    rw [if_neg i10]
    by_cases e : p' = T
    · subst e
      rw [if_pos rfl]
      refine ⟨1, p', l', S', rfl, fun q => Or.inl ?_⟩
      rw [row q, c1, if_neg i10, Nat.sub_self]
      refine ⟨rfl, rfl, c4, ?_⟩
      show Pth (vw 2 (pt I 158 _) 158) S' l'
      rw [vw_pt]
      exact c5
    · rw [if_neg (fun z => e ((nI_eq (by omega) (by omega)).mp z))]
      refine ⟨0, p', l', S', rfl, fun q => Or.inr ⟨?_, rfl⟩⟩
      rw [row q, c1, if_neg i10]
      have hlt : p' < T := by omega
      -- at least one path more
      intro z
      obtain ⟨to2, q1, q2, q3, q4⟩ := ex_first (fun k => vw 2 I 7 1 k = 32) (p' + 1) T (by omega)
      rw [lpRow_scan t q2 (to2 - (p' + 1)) (T - p') (p' + 1) 1 (p' + 1) _ (by omega) (by omega) (fun k a b => q3 k a b), show T - p' - (to2 - (p' + 1)) = (T - to2) + 1 by omega, lpRow_end t (by rcases q4 with z | z; exact Or.inl z; rcases Nat.eq_or_lt_of_le q2 with w | w; exact Or.inl w; exact Or.inr ⟨w, z⟩) _ _ _ _ (by decide)] at z
      split at z
      · exact absurd (show (-1 : Int32) = 1 from z) (by decide)
      · rcases lpRow_ge T (vw 2 I 7) (T - to2) (to2 + 1) (1 + 1) (to2 + 1) (pt (pt I 158 (gP_X4_readFrom 12 (vw 2 I 7) (vw 2 I 158) (nI 0) (nI p'))) (rr 158 1) (gP_X4_readFrom 12 (vw 2 I 7) (vw 2 (pt I 158 (gP_X4_readFrom 12 (vw 2 I 7) (vw 2 I 158) (nI 0) (nI p'))) (rr 158 1)) (nI (p' + 1)) (nI to2))) (by decide) with y | ⟨c', c1', c2', c3'⟩
        · rw [y] at z
          exact absurd z (by decide)
        · rw [c3'] at z
          have : c' = 1 := (nI_eq (b := 1) (by omega) (by decide)).mp z
          omega
  · have no : ¬ I 1 6 ≤ 0 → ¬ (rowO I T).1 = 1 := fun q => by
      rw [row q, c1, if_pos rfl]
      exact (by decide : ¬ (-1 : Int32) = 1)
    rcases c2 with z | ⟨z1, z2, z3⟩
    · rw [if_pos z]
      exact ⟨0, p', l', S', rfl, fun q => Or.inr ⟨no q, rfl⟩⟩
    · subst z1
      rw [if_neg i10, if_neg (fun w => by have := (nI_eq (by omega) (by omega)).mp w; omega)]
      exact ⟨0, p', l', S', rfl, fun q => Or.inr ⟨no q, rfl⟩⟩

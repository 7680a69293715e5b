/-! Turns of the two readers. -/
noncomputable def V13 (x2 x3 x4 : Int32) (s : MH) : Option MO := Ev T_X10_volumeTold 13 [some (mR (some 188)), none, some (mI x2), some (mI x3), some (mI x4), none, none, none] [] s
theorem V13_bad {J : MJ} (h : RefL J) (I : MI) (p b g m v : Int32) (S : RowV) (hb : ¬ b = 0) (x2 x3 x4 : Int32) : V13 x2 x3 x4 (vF I p b g m v S, J) = some (none, (vF I p b g m v S, J)) := by
  unfold V13
  rw [E_X10_volumeTold_13]
  simp only [h.fi, vF_4, Option.bind_some, if_neg hb]
theorem V13_no {I : MI} {Q : RouV} {T : Nat} (t : RTap I Q T) {J : MJ} (h : RefL J) (g m v : Int32) (S : RowV) {p s : Nat} (hs : Sk Q T p s) (x2 x3 x4 : Int32) (hl : q_X9_isLetter (q_X5_at Q (nI s)) = 0) (h1 : q_X5_at Q (nI s) = 123 → x4 = -1) (h2 : q_X5_at Q (nI s) = 125 → x3 ≤ 0) (h3 : q_X5_at Q (nI s) = 59 → ¬ x3 = 0) : V13 x2 x3 x4 (vF I (nI p) 0 g m v S, J) = some (none, (vF I (nI s) 1 (nI s) m v S, J)) := by
  have bad := V13_bad h I (nI s) 1 (nI s) m v S i10 x2 x3 x4
  unfold V13 at bad ⊢
  rw [E_X10_volumeTold_13]
  simp only [h.fi, vF_4, Option.bind_some, if_true, h.kt, w_look0 t h 0 g m v S hs, asI_I, vF_2, w_isLetter, hl, w_fail0 h, asV_n]
  generalize q_X5_at Q (nI s) = c at h1 h2 h3
  by_cases c1 : c = 123
  · rw [if_pos c1, if_pos (h1 c1), if_neg (by rw [c1]; decide), if_neg (by rw [c1]; decide)]
    exact bad
  · rw [if_neg c1]
    by_cases c2 : c = 125
    · rw [if_pos c2, if_pos (h2 c2), if_neg (by rw [c2]; decide)]
      exact bad
    · rw [if_neg c2]
      by_cases c3 : c = 59
      · rw [if_pos c3, if_neg (h3 c3)]
        exact bad
      · rw [if_neg c3]
        exact bad
theorem nI_dec {d : Nat} (h : 0 < d) : nI d + (-1) = nI (d - 1) := by
  have e : d = (d - 1) + 1 := by omega
  rw [e, ← nI_1, Int32.add_assoc]
  show nI (d - 1) + 0 = _
  rw [Int32.add_zero]
  congr 1
theorem V13_open {I : MI} {Q : RouV} {T : Nat} (t : RTap I Q T) {J : MJ} (h : RefL J) (g m v : Int32) (S : RowV) {p s l d : Nat} (hs : Sk Q T p s) (x2 : Int32) (hc : q_X5_at Q (nI s) = 123) (hl : l < 40) (hd : d < 8) : V13 x2 (nI d) (nI l) (vF I (nI p) 0 g m v S, J) = V13 (nI l) (nI (d + 1)) (-1) (vF I (nI (s + 1)) 0 g m v (sD S (4 * l + 1) 1), J) := by
  have st1 : ∀ y, st (vF I (nI s) 0 g m v S, J) 11 191 (4 * nI l + 1) y = some (vF I (nI s) 0 g m v (sD S (4 * l + 1) y), J) := fun y => stS h I _ 0 g m v S (by omega) (i4_1 l) y
  unfold V13
  rw [E_X10_volumeTold_13]
  simp only [h.fi, vF_4, Option.bind_some, if_true, h.kt, w_look0 t h 0 g m v S hs, asI_I, vF_2, w_isLetter, hc, show q_X9_isLetter 123 = 0 by decide]
  rw [if_neg (nI_m1 (show l < 2 ^ 31 by omega)), if_neg (show ¬ nI d = 8 from fun z => absurd ((nI_eq (a := d) (b := 8) (by omega) (by decide)).mp z) (by omega))]
  simp only [h.f9, Option.bind_some, st1, h.fi, vF_2, h.wi, vF_s2, nI_1]
theorem V13_open8 {I : MI} {Q : RouV} {T : Nat} (t : RTap I Q T) {J : MJ} (h : RefL J) (g m v : Int32) (S : RowV) {p s l : Nat} (hs : Sk Q T p s) (x2 : Int32) (hc : q_X5_at Q (nI s) = 123) (hl : l < 40) : ∃ S', V13 x2 (nI 8) (nI l) (vF I (nI p) 0 g m v S, J) = some (none, (vF I (nI (s + 1)) 5 (nI s) m v S', J)) := by
  have st1 : ∀ y, st (vF I (nI s) 5 (nI s) m v S, J) 11 191 (4 * nI l + 1) y = some (vF I (nI s) 5 (nI s) m v (sD S (4 * l + 1) y), J) := fun y => stS h I _ 5 _ m v S (by omega) (i4_1 l) y
  refine ⟨sD S (4 * l + 1) 1, ?_⟩
  have bad := V13_bad h I (nI (s + 1)) 5 (nI s) m v (sD S (4 * l + 1) 1) (by decide) (nI l) (nI 8 + 1) (-1)
  unfold V13 at bad ⊢
  rw [E_X10_volumeTold_13]
  simp only [h.fi, vF_4, Option.bind_some, if_true, h.kt, w_look0 t h 0 g m v S hs, asI_I, vF_2, w_isLetter, hc, show q_X9_isLetter 123 = 0 by decide]
  rw [if_neg (nI_m1 (show l < 2 ^ 31 by omega)), if_pos (show nI 8 = 8 from rfl)]
  simp only [w_fail0 h, asV_n, h.f9, Option.bind_some, st1, h.fi, vF_2, h.wi, vF_s2, nI_1]
  exact bad
theorem V13_close {I : MI} {Q : RouV} {T : Nat} (t : RTap I Q T) {J : MJ} (h : RefL J) (g m v : Int32) (S : RowV) {p s f d : Nat} (hs : Sk Q T p s) (x4 : Int32) (hc : q_X5_at Q (nI s) = 125) (hf : f < 40) (hd : 0 < d) (hd8 : d < 1000) : V13 (nI f) (nI d) x4 (vF I (nI p) 0 g m v S, J) = V13 (S (4 * f + 2)) (nI (d - 1)) (-1) (vF I (nI (s + 1)) 0 g m v S, J) := by
  unfold V13
  rw [E_X10_volumeTold_13]
  simp only [h.fi, vF_4, Option.bind_some, if_true, h.kt, w_look0 t h 0 g m v S hs, asI_I, vF_2, w_isLetter, hc, show q_X9_isLetter 125 = 0 by decide]
  rw [if_neg (show ¬ (125 : Int32) = 123 by decide), if_neg (show ¬ nI d ≤ 0 from nI_ge (a := 0) hd (by omega))]
  simp only [w_drafted h I (nI s) 0 g m v S (show (2 : Int32) = nI 2 from rfl) (show 4 * f + 2 < 240 by omega), Option.bind_some, asI_I, h.fi, vF_2, h.wi, vF_s2, nI_1, nI_dec hd]
theorem V13_semi {I : MI} {Q : RouV} {T : Nat} (t : RTap I Q T) {J : MJ} (h : RefL J) (g m v : Int32) (S : RowV) {p s : Nat} (hs : Sk Q T p s) (x2 x4 : Int32) (hc : q_X5_at Q (nI s) = 59) : V13 x2 (nI 0) x4 (vF I (nI p) 0 g m v S, J) = some (none, (vF I (nI (s + 1)) 0 g m (v + 1) S, J)) := by
  unfold V13
  rw [E_X10_volumeTold_13]
  simp only [h.fi, vF_4, Option.bind_some, if_true, h.kt, w_look0 t h 0 g m v S hs, asI_I, vF_2, w_isLetter, hc, show q_X9_isLetter 59 = 0 by decide]
  rw [if_neg (show ¬ (59 : Int32) = 123 by decide), if_neg (show ¬ (59 : Int32) = 125 by decide), if_pos (show nI 0 = 0 from rfl)]
  simp only [h.fi, vF_2, vF_12, h.wi, vF_s2, vF_s12, nI_1, Option.bind_some]
theorem V13_full {I : MI} {Q : RouV} {T : Nat} (t : RTap I Q T) {J : MJ} (h : RefL J) (g v : Int32) (S : RowV) {p s : Nat} (hs : Sk Q T p s) (x2 x3 x4 : Int32) (hl : q_X9_isLetter (q_X5_at Q (nI s)) = 1) : V13 x2 x3 x4 (vF I (nI p) 0 g (nI 40) v S, J) = some (none, (vF I (nI s) 5 (nI s) (nI 40) v S, J)) := by
  have bad := V13_bad h I (nI s) 5 (nI s) (nI 40) v S (by decide) x2 x3 (-1)
  unfold V13 at bad ⊢
  rw [E_X10_volumeTold_13]
  simp only [h.fi, vF_4, vF_10, Option.bind_some, if_true, h.kt, w_look0 t h 0 g (nI 40) v S hs, asI_I, vF_2, w_isLetter, hl, if_neg i10]
  rw [if_pos (show nI 40 = 40 from rfl)]
  simp only [w_fail0 h, asV_n, Option.bind_some, h.kt, if_true, w_name1 h _ _ 5 _ _ _ _ (by decide), asI_I, h.fi, vF_4, if_neg (show ¬ (5 : Int32) = 0 by decide)]
  exact bad
theorem V13_long {I : MI} {Q : RouV} {T : Nat} (t : RTap I Q T) {J : MJ} (h : RefL J) (g v : Int32) (S : RowV) {p s n : Nat} (hs : Sk Q T p s) (n40 : n < 40) (x2 x3 x4 : Int32) (hn : s + 5 ≤ T) (hl : ∀ j, j < 5 → Lt (Q 1 (s + j))) : V13 x2 x3 x4 (vF I (nI p) 0 g (nI n) v S, J) = some (none, (vF I (nI (s + 5)) 1 (nI (s + 4)) (nI n) v S, J)) := by
  obtain ⟨y, e⟩ := w_name5 t h g (nI n) v S hn hl
  have l0 : q_X9_isLetter (q_X5_at Q (nI s)) = 1 := by
    rw [t.1.in (show s < T by omega)]
    exact lt_q (hl 0 (by omega))
  have bad := V13_bad h I (nI (s + 5)) 1 (nI (s + 4)) (nI n) v S i10 x2 x3 (-1)
  unfold V13 at bad ⊢
  rw [E_X10_volumeTold_13]
  simp only [h.fi, vF_4, vF_10, Option.bind_some, if_true, h.kt, w_look0 t h 0 g (nI n) v S hs, asI_I, vF_2, w_isLetter, l0, if_neg i10, if_neg (n40I n40), e]
  exact bad
/-- a name of at most four letters: what is drafted -/
theorem V13_name {I : MI} {Q : RouV} {T : Nat} (t : RTap I Q T) {J : MJ} (h : RefL J) (g v : Int32) (S : RowV) {p s n L : Nat} (hs : Sk Q T p s) (n40 : n < 40) (x2 x3 x4 : Int32) (h1 : 1 ≤ L) (h4 : L ≤ 4) (hn : s + L ≤ T) (hl : ∀ j, j < L → Lt (Q 1 (s + j))) (he : s + L = T ∨ ¬ Lt (Q 1 (s + L))) : V13 x2 x3 x4 (vF I (nI p) 0 g (nI n) v S, J) = (M_X10_drafts [mR (some 188), mI x2, mI (rnm (Q 1) s L), mI (nI s)] (vF I (nI (s + L)) 0 g (nI n) v S, J)).bind (fun u60 => (asI u60.1).bind fun y61 => V13 x2 x3 y61 u60.2) := by
  have l0 : q_X9_isLetter (q_X5_at Q (nI s)) = 1 := by
    rw [t.1.in (show s < T by omega)]
    exact lt_q (hl 0 (by omega))
  unfold V13
  rw [E_X10_volumeTold_13]
  simp only [h.fi, vF_4, vF_10, Option.bind_some, if_true, h.kt, w_look0 t h 0 g (nI n) v S hs, asI_I, vF_2, w_isLetter, l0, if_neg i10, if_neg (n40I n40), w_name t h g (nI n) v S hn h4 hl he]
/-! The class. -/
abbrev RTl (Q : RouV) (nn k : Nat) (x2 : Int32) (E : OneV) (U : NodV) : Int32 × OneV × NodV := lp_X3_readTrees_41 Q nn k x2 E U
theorem lp_0 (Q : RouV) (nn k : Nat) (E : OneV) (U : NodV) : RTl Q nn k 0 E U = if (E 0 1) = 0 then (1, E, U) else (0, E, U) := by
  cases nn with
  | zero => exact if_pos rfl
  | succ nn => exact if_pos rfl
theorem lp_in {Q : RouV} {T : Nat} (t : Tap Q T) {p s : Nat} (hs : Sk Q T p s) (nn k : Nat) (E : OneV) (U : NodV) (e3 : E 0 3 = nI p) (e6 : ¬ bz (E 0 6) = 0) : RTl Q (nn + 1) k 1 E U = RTl Q nn (k + 1) (q_X3_readInside (uv E 0 3 (nI s)) Q U (q_X5_at Q (nI s))) (gE_X3_readInside (uv E 0 3 (nI s)) Q U (q_X5_at Q (nI s))) (gU_X3_readInside (uv E 0 3 (nI s)) Q U (q_X5_at Q (nI s))) := by
  have sk := skip_q t hs e3
  have e : RTl Q (nn + 1) k 1 E U = (if (bz ((gE_X3_skipBlanks E Q) 0 6)) = 0 then RTl Q nn (k + 1) (q_X3_readOutside (gE_X3_skipBlanks E Q) U (q_X5_at Q ((gE_X3_skipBlanks E Q) 0 3))) (gE_X3_readOutside (gE_X3_skipBlanks E Q) U (q_X5_at Q ((gE_X3_skipBlanks E Q) 0 3))) (gU_X3_readOutside (gE_X3_skipBlanks E Q) U (q_X5_at Q ((gE_X3_skipBlanks E Q) 0 3))) else RTl Q nn (k + 1) (q_X3_readInside (gE_X3_skipBlanks E Q) Q U (q_X5_at Q ((gE_X3_skipBlanks E Q) 0 3))) (gE_X3_readInside (gE_X3_skipBlanks E Q) Q U (q_X5_at Q ((gE_X3_skipBlanks E Q) 0 3))) (gU_X3_readInside (gE_X3_skipBlanks E Q) Q U (q_X5_at Q ((gE_X3_skipBlanks E Q) 0 3)))) := if_neg i10
  rw [e, sk, uv_n _ _ _ _ _ _ (by decide), if_neg e6, uv_s]
theorem lp_out {Q : RouV} {T : Nat} (t : Tap Q T) {p s : Nat} (hs : Sk Q T p s) (nn k : Nat) (E : OneV) (U : NodV) (e3 : E 0 3 = nI p) (e6 : bz (E 0 6) = 0) : RTl Q (nn + 1) k 1 E U = RTl Q nn (k + 1) (q_X3_readOutside (uv E 0 3 (nI s)) U (q_X5_at Q (nI s))) (gE_X3_readOutside (uv E 0 3 (nI s)) U (q_X5_at Q (nI s))) (gU_X3_readOutside (uv E 0 3 (nI s)) U (q_X5_at Q (nI s))) := by
  have sk := skip_q t hs e3
  have e : RTl Q (nn + 1) k 1 E U = (if (bz ((gE_X3_skipBlanks E Q) 0 6)) = 0 then RTl Q nn (k + 1) (q_X3_readOutside (gE_X3_skipBlanks E Q) U (q_X5_at Q ((gE_X3_skipBlanks E Q) 0 3))) (gE_X3_readOutside (gE_X3_skipBlanks E Q) U (q_X5_at Q ((gE_X3_skipBlanks E Q) 0 3))) (gU_X3_readOutside (gE_X3_skipBlanks E Q) U (q_X5_at Q ((gE_X3_skipBlanks E Q) 0 3))) else RTl Q nn (k + 1) (q_X3_readInside (gE_X3_skipBlanks E Q) Q U (q_X5_at Q ((gE_X3_skipBlanks E Q) 0 3))) (gE_X3_readInside (gE_X3_skipBlanks E Q) Q U (q_X5_at Q ((gE_X3_skipBlanks E Q) 0 3))) (gU_X3_readInside (gE_X3_skipBlanks E Q) Q U (q_X5_at Q ((gE_X3_skipBlanks E Q) 0 3)))) := if_neg i10
  rw [e, sk, uv_n _ _ _ _ _ _ (by decide), if_pos e6, uv_s]
theorem lp_fail (Q : RouV) (nn k : Nat) (E : OneV) (U : NodV) (x y : Int32) (hx : ¬ x = 0) : (RTl Q nn k 0 (gE_X3_fail E x y) U).1 = 0 := by
  have e : gE_X3_fail E x y 0 1 = x := by
    unfold gE_X3_fail
    simp [uv]
  rw [lp_0, e, if_neg hx]
/-- inside, a wrong byte -/
theorem in_no {E : OneV} {Q : RouV} {U : NodV} {c : Int32} (hl : q_X9_isLetter c = 0) (h2 : c = 125 → E 0 4 ≤ 0) (h3 : c = 59 → ¬ E 0 4 = 0) : q_X3_readInside E Q U c = 0 ∧ gE_X3_readInside E Q U c = gE_X3_fail E 1 (E 0 3) := by
  unfold q_X3_readInside gE_X3_readInside
  rw [hl]
  by_cases c3 : c = 59
  · have c2 : ¬ c = 125 := by rw [c3]; decide
    simp only [if_pos c3, if_neg (h3 c3), if_neg c2, if_true]
    exact ⟨rfl, trivial⟩
  · simp only [if_neg c3]
    by_cases c2 : c = 125
    · simp only [if_pos c2, if_pos (h2 c2), if_true]
      exact ⟨rfl, trivial⟩
    · simp only [if_neg c2, if_true]
      exact ⟨rfl, trivial⟩
theorem in_semi {E : OneV} {Q : RouV} {U : NodV} (h : E 0 4 = 0) : q_X3_readInside E Q U 59 = 1 ∧ gE_X3_readInside E Q U 59 = uv (uv E 0 6 0) 0 3 ((E 0 3) + 1) ∧ gU_X3_readInside E Q U 59 = U := by
  unfold q_X3_readInside gE_X3_readInside gU_X3_readInside
  simp only [if_true, if_pos h]
  exact ⟨trivial, trivial, trivial⟩
theorem in_close {E : OneV} {Q : RouV} {U : NodV} (h : ¬ E 0 4 ≤ 0) : q_X3_readInside E Q U 125 = 1 ∧ gE_X3_readInside E Q U 125 = uv (uv (uv E 0 5 (q_X2_parentOf U (E 0 5))) 0 4 ((E 0 4) - 1)) 0 3 ((E 0 3) + 1) ∧ gU_X3_readInside E Q U 125 = U := by
  unfold q_X3_readInside gE_X3_readInside gU_X3_readInside
  simp only [if_neg (show ¬ (125 : Int32) = 59 by decide), if_true, if_neg h]
  exact ⟨trivial, trivial, trivial⟩
theorem in_item {E : OneV} {Q : RouV} {U : NodV} {c : Int32} (hl : q_X9_isLetter c = 1) : q_X3_readInside E Q U c = (o_X3_readItem E Q U).1 ∧ gE_X3_readInside E Q U c = (o_X3_readItem E Q U).2.1 ∧ gU_X3_readInside E Q U c = (o_X3_readItem E Q U).2.2 := by
  have c3 : ¬ c = 59 := fun z => by rw [z] at hl; exact absurd hl (by decide)
  have c2 : ¬ c = 125 := fun z => by rw [z] at hl; exact absurd hl (by decide)
  unfold q_X3_readInside gE_X3_readInside gU_X3_readInside
  rw [hl]
  simp only [if_neg c3, if_neg c2, if_neg i10]
  exact ⟨rfl, rfl, rfl⟩
/-- letters of an item -/
theorem item_go {Q : RouV} {T : Nat} (t : Tap Q T) (U : NodV) (x2 : Int32) {s L : Nat} (hn : s + L ≤ T) (hl : ∀ j, j < L → Lt (Q 1 (s + j))) (he : s + L = T ∨ ¬ Lt (Q 1 (s + L))) : ∀ (f j : Nat) (E : OneV), j ≤ L → L - j ≤ f → E 0 3 = nI (s + j) → lp_X3_readItem Q U x2 f E = e_X3_readItem (uv E 0 3 (nI (s + L))) Q U x2 := by
  have T4 := t.1
  have id : ∀ (E : OneV), E 0 3 = nI (s + L) → uv E 0 3 (nI (s + L)) = E := fun E e => by
    funext a j
    unfold uv
    split
    · rename_i y; rw [y.1, y.2, e]
    · rfl
  have nl : q_X9_isLetter (q_X5_at Q (nI (s + L))) = 0 := by
    by_cases z : s + L = T
    · rw [t.out (by omega) (by omega)]; decide
    · rcases t.lt (show s + L < T by omega) with ⟨_, q2⟩ | ⟨q1, _⟩
      · exact absurd q2 (he.resolve_left z)
      · rw [t.in (by omega)]; exact q1
  intro f
  induction f with
  | zero =>
    intro j E j1 j2 e
    have : j = L := by omega
    subst this
    rw [id E e]
    rfl
  | succ f ih =>
    intro j E j1 j2 e
    have st : lp_X3_readItem Q U x2 (f + 1) E = if (q_X9_isLetter (q_X5_at Q (E 0 3))) = 0 then e_X3_readItem E Q U x2 else lp_X3_readItem Q U x2 f (uv E 0 3 ((E 0 3) + 1)) := rfl
    rw [st, e]
    rcases Nat.eq_or_lt_of_le j1 with z | z
    · subst z
      rw [if_pos nl, id E e]
    · rw [t.in (show s + j < T by omega), lt_q (hl j z), if_neg i10, nI_1, ih (j + 1) (uv E 0 3 (nI (s + j + 1))) (by omega) (by omega) (uv_s _ _ _ _)]
      congr 1
      funext a b
      unfold uv
      split <;> simp_all
theorem item_long {Q : RouV} {T : Nat} (t : Tap Q T) (U : NodV) (x2 : Int32) {s : Nat} (hn : s + 5 ≤ T) (hl : ∀ j, j < 5 → Lt (Q 1 (s + j))) : ∀ (f j : Nat) (E : OneV), j + f = 4 → E 0 3 = nI (s + j) → ∃ E', lp_X3_readItem Q U x2 f E = (0, gE_X3_fail E' 1 (E' 0 3), U) := by
  have T4 := t.1
  intro f
  induction f with
  | zero =>
    intro j E j1 e
    have : j = 4 := by omega
    subst this
    refine ⟨E, ?_⟩
    show e_X3_readItem E Q U x2 = _
    unfold e_X3_readItem
    rw [e, t.in (show s + 4 < T by omega), lt_q (hl 4 (by omega)), if_neg i10]
    rfl
  | succ f ih =>
    intro j E j1 e
    have st : lp_X3_readItem Q U x2 (f + 1) E = if (q_X9_isLetter (q_X5_at Q (E 0 3))) = 0 then e_X3_readItem E Q U x2 else lp_X3_readItem Q U x2 f (uv E 0 3 ((E 0 3) + 1)) := rfl
    rw [st, e, t.in (show s + j < T by omega), lt_q (hl j (by omega)), if_neg i10, nI_1]
    exact ih (j + 1) _ (by omega) (uv_s _ _ _ _)

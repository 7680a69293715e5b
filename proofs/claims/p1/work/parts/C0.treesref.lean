/-! The reference's reader of TREES: its small pieces. -/
/-- while it reads: at is p, bad b, badPlace g, draftMany m, draftVolumes v, draft (191) S -/
def vF (I : MI) (p b g m v : Int32) (S : RowV) : MI := fun a j => if a = 191 then S j else if a = 188 then (if j = 2 then p else if j = 4 then b else if j = 5 then g else if j = 10 then m else if j = 12 then v else I 188 j) else I a j
theorem vF_S (I : MI) (p b g m v : Int32) (S : RowV) : vF I p b g m v S 191 = S := by
  funext j
  exact if_pos rfl
theorem vF_2 (I : MI) (p b g m v : Int32) (S : RowV) : vF I p b g m v S 188 2 = p := by simp [vF]
theorem vF_4 (I : MI) (p b g m v : Int32) (S : RowV) : vF I p b g m v S 188 4 = b := by simp [vF]
theorem vF_5 (I : MI) (p b g m v : Int32) (S : RowV) : vF I p b g m v S 188 5 = g := by simp [vF]
theorem vF_10 (I : MI) (p b g m v : Int32) (S : RowV) : vF I p b g m v S 188 10 = m := by simp [vF]
theorem vF_12 (I : MI) (p b g m v : Int32) (S : RowV) : vF I p b g m v S 188 12 = v := by simp [vF]
theorem vF_k (I : MI) (p b g m v : Int32) (S : RowV) {k : Nat} (h2 : k ≠ 2) (h4 : k ≠ 4) (h5 : k ≠ 5) (h10 : k ≠ 10) (h12 : k ≠ 12) : vF I p b g m v S 188 k = I 188 k := by simp [vF, h2, h4, h5, h10, h12]
theorem vF_3 (I : MI) (p b g m v : Int32) (S : RowV) : vF I p b g m v S 188 3 = I 188 3 := vF_k _ _ _ _ _ _ _ (by decide) (by decide) (by decide) (by decide) (by decide)
theorem vF_o (I : MI) (p b g m v : Int32) (S : RowV) {a : Nat} (h1 : a ≠ 188) (h2 : a ≠ 191) : vF I p b g m v S a = I a := by
  funext j
  unfold vF
  rw [if_neg h2, if_neg h1]
theorem vF_s2 (I : MI) (p b g m v : Int32) (S : RowV) (x : Int32) : up2 (vF I p b g m v S) 188 2 x = vF I x b g m v S := by
  funext a j
  unfold up2 vF
  by_cases h : a = 188
  · subst h
    by_cases c : j = 2
    · simp [c]
    · simp [c]
  · simp [h]
theorem vF_s4 (I : MI) (p b g m v : Int32) (S : RowV) (x : Int32) : up2 (vF I p b g m v S) 188 4 x = vF I p x g m v S := by
  funext a j
  unfold up2 vF
  by_cases h : a = 188
  · subst h
    by_cases c : j = 4
    · simp [c]
    · simp [c]
  · simp [h]
theorem vF_s5 (I : MI) (p b g m v : Int32) (S : RowV) (x : Int32) : up2 (vF I p b g m v S) 188 5 x = vF I p b x m v S := by
  funext a j
  unfold up2 vF
  by_cases h : a = 188
  · subst h
    by_cases c : j = 5
    · simp [c]
    · simp [c]
  · simp [h]
theorem vF_s10 (I : MI) (p b g m v : Int32) (S : RowV) (x : Int32) : up2 (vF I p b g m v S) 188 10 x = vF I p b g x v S := by
  funext a j
  unfold up2 vF
  by_cases h : a = 188
  · subst h
    by_cases c : j = 10
    · simp [c]
    · simp [c]
  · simp [h]
theorem vF_s12 (I : MI) (p b g m v : Int32) (S : RowV) (x : Int32) : up2 (vF I p b g m v S) 188 12 x = vF I p b g m x S := by
  funext a j
  unfold up2 vF
  by_cases h : a = 188
  · subst h
    by_cases c : j = 12
    · simp [c]
    · simp [c]
  · simp [h]
theorem vF_sS (I : MI) (p b g m v : Int32) (S : RowV) (i : Nat) (x : Int32) : up2 (vF I p b g m v S) 191 i x = vF I p b g m v (sD S i x) := by
  funext a j
  unfold up2 vF sD
  by_cases h : a = 191
  · subst h
    simp
  · simp [h]
theorem RefL.f9 {J : MJ} (h : RefL J) (I : MI) : fR (I, J) 10 188 9 = some (some 191) := by rw [fR_ok 9 h.k, h.r9]
theorem rt_lv {I : MI} {Q : RouV} {T : Nat} (t : RTap I Q T) {J : MJ} (h : RefL J) (p b g m v : Int32) (S : RowV) {k : Nat} (hk : k < T) {x : Int32} (hx : x = nI k) : ld (vF I p b g m v S, J) 11 189 x = some (Q 1 k) := by
  have := t.1.1
  rw [ldx h.s0 (show k < 400 by omega) (by decide) hx, vF_o _ _ _ _ _ _ _ (by decide) (by decide), t.2.2 k hk]
/-- a blank -/
def Bk (c : Int32) : Prop := c = 10 ∨ c = 32
/-- blanks from p to s, none at s -/
def Sk (Q : RouV) (T p s : Nat) : Prop := p ≤ s ∧ s ≤ T ∧ (∀ k, p ≤ k → k < s → Bk (Q 1 k)) ∧ (s = T ∨ ¬ Bk (Q 1 s))
theorem Sk.ex (Q : RouV) {T p : Nat} (h : p ≤ T) : ∃ s, Sk Q T p s := by
  obtain ⟨s, s1, s2, s3, s4⟩ := ex_first (fun k => ¬ Bk (Q 1 k)) p T h
  refine ⟨s, s1, s2, fun k a b => ?_, s4⟩
  exact Classical.not_not.mp (s3 k a b)
theorem Sk.back {Q : RouV} {T p s q : Nat} (h : Sk Q T p s) (hq : q ≤ p) (hb : ∀ k, q ≤ k → k < p → Bk (Q 1 k)) : Sk Q T q s := by
  obtain ⟨s1, s2, s3, s4⟩ := h
  refine ⟨by omega, s2, fun k a b => ?_, s4⟩
  rcases Nat.lt_or_ge k p with z | z
  · exact hb k a z
  · exact s3 k z b
theorem Sk.self {Q : RouV} {T p s : Nat} (h : Sk Q T p s) : Sk Q T s s := ⟨Nat.le_refl _, h.2.1, fun k a b => by omega, h.2.2.2⟩
theorem Sk.uniq {Q : RouV} {T p s : Nat} (h : Sk Q T p s) (hp : p = T ∨ ¬ Bk (Q 1 p)) : s = p := by
  obtain ⟨s1, s2, s3, s4⟩ := h
  rcases Nat.eq_or_lt_of_le s1 with z | z
  · exact z.symm
  · rcases hp with y | y
    · omega
    · exact absurd (s3 p (Nat.le_refl _) z) y
/-- the class's blanks skipped -/
theorem skip_go {Q : RouV} {T : Nat} (t : Tap Q T) {s : Nat} : ∀ (f p : Nat) (E : OneV), Sk Q T p s → E 0 3 = nI p → T - p ≤ f → lp_X3_skipBlanks Q f E = uv E 0 3 (nI s)
  | 0, p, E, h, e, hf => by
    obtain ⟨s1, s2, _, _⟩ := h
    have : s = p := by omega
    subst this
    show E = uv E 0 3 (nI s)
    funext a j
    unfold uv
    split
    · rename_i z; rw [z.1, z.2, e]
    · rfl
  | f + 1, p, E, h, e, hf => by
    have T4 := t.1
    have st : lp_X3_skipBlanks Q (f + 1) E = if (Q 0 1) ≤ (E 0 3) then E else if (q_X5_at Q (E 0 3)) = 32 then lp_X3_skipBlanks Q f (uv E 0 3 ((E 0 3) + 1)) else if (q_X5_at Q (E 0 3)) = 10 then lp_X3_skipBlanks Q f (uv E 0 3 ((E 0 3) + 1)) else E := rfl
    have id : s = p → E = uv E 0 3 (nI s) := fun z => by
      funext a j
      unfold uv
      split
      · rename_i y; rw [y.1, y.2, e, z]
      · rfl
    have h' := h
    obtain ⟨s1, s2, s3, s4⟩ := h
    rw [st, e, t.2.1]
    by_cases z : p = T
    · rw [if_pos (by rw [z]; exact Int32.le_refl _)]
      exact id (by omega)
    · have lt : p < T := by omega
      rw [if_neg (nI_ge lt (by omega)), t.in lt]
      have nx : Bk (Q 1 p) → lp_X3_skipBlanks Q f (uv E 0 3 (nI p + 1)) = uv E 0 3 (nI s) := fun b => by
        have ps : p < s := by
          rcases Nat.eq_or_lt_of_le s1 with y | y
          · subst y
            rcases s4 with w | w
            · omega
            · exact absurd b w
          · exact y
        rw [nI_1, skip_go t f (p + 1) (uv E 0 3 (nI (p + 1))) ⟨by omega, s2, fun k a b => s3 k (by omega) b, s4⟩ (uv_s _ _ _ _) (by omega)]
        funext a j
        unfold uv
        split <;> simp_all
      by_cases c1 : Q 1 p = 32
      · rw [if_pos c1]; exact nx (Or.inr c1)
      · rw [if_neg c1]
        by_cases c2 : Q 1 p = 10
        · rw [if_pos c2]; exact nx (Or.inl c2)
        · rw [if_neg c2]
          refine id ?_
          exact h'.uniq (Or.inr (fun y => y.elim c2 c1))
theorem skip_q {Q : RouV} {T : Nat} (t : Tap Q T) {p s : Nat} {E : OneV} (h : Sk Q T p s) (e : E 0 3 = nI p) : gE_X3_skipBlanks E Q = uv E 0 3 (nI s) := by
  have T4 := t.1
  have := h.1
  have := h.2.1
  unfold gE_X3_skipBlanks
  refine skip_go t _ p E h e ?_
  rw [e, t.2.1, nI_toInt (by omega), nI_toInt (by omega)]
  omega
/-- the reference's blanks skipped -/
theorem look_go {I : MI} {Q : RouV} {T : Nat} (t : RTap I Q T) {J : MJ} (h : RefL J) (b g m v : Int32) (S : RowV) {s : Nat} : ∀ (f p : Nat), Sk Q T p s → s - p ≤ f → Ev T_X10_look0 0 [some (mR (some 188))] [] (vF I (nI p) b g m v S, J) = some (some (mI (q_X5_at Q (nI s))), (vF I (nI s) b g m v S, J))
  | f, p, hs, hf => by
    have T4 := t.1.1
    have hs' := hs
    obtain ⟨s1, s2, s3, s4⟩ := hs
    rw [E_X10_look0_0]
    simp only [h.fi, vF_2, vF_3, t.2.1, Option.bind_some, h.f0]
    by_cases z : p = T
    · have e : s = p := by omega
      subst e
      rw [if_pos (by rw [z]; exact Int32.le_refl _), if_pos (by rw [z]; exact Int32.le_refl _), t.1.out (by omega) (by omega)]
    · have lt : p < T := by omega
      rw [if_neg (nI_ge lt (by omega)), rt_lv t h _ _ _ _ _ _ lt rfl]
      simp only [Option.bind_some, if_neg (nI_ge lt (show T < 2 ^ 31 by omega))]
      by_cases ps : s = p
      · subst ps
        have nb : ¬ Bk (Q 1 s) := by
          rcases s4 with w | w
          · omega
          · exact w
        rw [if_neg (fun y => nb (Or.inl y)), if_neg (fun y => nb (Or.inr y)), t.1.in lt]
      · have bk := s3 p (Nat.le_refl _) (by omega)
        have nx : (wI (vF I (nI p) b g m v S, J) 10 188 2 (nI p + 1)).bind (fun s14 => Ev T_X10_look0 0 [some (mR (some 188))] [] s14) = some (some (mI (q_X5_at Q (nI s))), (vF I (nI s) b g m v S, J)) := by
          rw [h.wi, Option.bind_some, vF_s2, nI_1]
          match f, hf with
          | 0, hf => omega
          | f + 1, hf => exact look_go t h b g m v S f (p + 1) ⟨by omega, s2, fun k a b => s3 k (by omega) b, s4⟩ (by omega)
        by_cases c1 : Q 1 p = 10
        · rw [if_pos c1]; exact nx
        · rw [if_neg c1, if_pos (bk.resolve_left c1)]; exact nx
theorem w_look0 {I : MI} {Q : RouV} {T : Nat} (t : RTap I Q T) {J : MJ} (h : RefL J) (b g m v : Int32) (S : RowV) {p s : Nat} (hs : Sk Q T p s) : M_X10_look0 [mR (some 188)] (vF I (nI p) b g m v S, J) = some (some (mI (q_X5_at Q (nI s))), (vF I (nI s) b g m v S, J)) := by
  rw [E_X10_look0]
  exact look_go t h b g m v S _ p hs (Nat.le_refl _)
theorem w_fail0 {J : MJ} (h : RefL J) (I : MI) (p g m v : Int32) (S : RowV) (k x : Int32) : M_X10_fail [mR (some 188), mI k, mI x] (vF I p 0 g m v S, J) = some (none, (vF I p k x m v S, J)) := by
  rw [E_X10_fail]
  simp only [h.fi, vF_4, Option.bind_some, if_true, h.wi, vF_s4, vF_s5]
theorem w_fail1 {J : MJ} (h : RefL J) (I : MI) (p b g m v : Int32) (S : RowV) (k x : Int32) (hb : ¬ b = 0) : M_X10_fail [mR (some 188), mI k, mI x] (vF I p b g m v S, J) = some (none, (vF I p b g m v S, J)) := by
  rw [E_X10_fail]
  simp only [h.fi, vF_4, Option.bind_some, if_neg hb]
theorem i4 (k f : Nat) : (4 : Int32) * nI k + nI f = nI (4 * k + f) := by
  rw [show (4 : Int32) = nI 4 from rfl, nI_mul, nI_add]
theorem w_drafted {J : MJ} (h : RefL J) (I : MI) (p b g m v : Int32) (S : RowV) {k f : Nat} {x : Int32} (hx : x = nI f) (hk : 4 * k + f < 240) : M_X10_drafted [mR (some 188), mI (nI k), mI x] (vF I p b g m v S, J) = some (some (mI (S (4 * k + f))), (vF I p b g m v S, J)) := by
  subst hx
  rw [E_X10_drafted, i4]
  simp only [h.f9, Option.bind_some, ldx h.s9 hk (by decide) rfl, vF_S]
/-- a name read -/
theorem name_go {I : MI} {Q : RouV} {T : Nat} (t : RTap I Q T) {J : MJ} (h : RefL J) (g m v : Int32) (S : RowV) {s n : Nat} (hn : s + n ≤ T) (n4 : n ≤ 4) (hl : ∀ j, j < n → Lt (Q 1 (s + j))) : ∀ k, k ≤ n → Ev T_X10_nameHere 7 [some (mR (some 188)), some (mI (nI s)), some (mI 0)] [] (vF I (nI s) 0 g m v S, J) = Ev T_X10_nameHere 7 [some (mR (some 188)), some (mI (nI s)), some (mI (rnm (Q 1) s k))] [] (vF I (nI (s + k)) 0 g m v S, J)
  | 0, _ => rfl
  | k + 1, hk => by
    have T4 := t.1.1
    rw [name_go t h g m v S hn n4 hl k (by omega), E_X10_nameHere_7]
    simp only [h.fi, vF_4, vF_2, vF_3, t.2.1, Option.bind_some, if_true, h.f0, rt_lv t h _ _ _ _ _ _ (show s + k < T by omega) rfl, w_isLetter, asI_I, lt_q (hl k (by omega)), if_neg i10]
    rw [if_neg (nI_ge (show s + k < T by omega) (by omega)), nI_sub (by omega), show s + k - s = k by omega, if_neg (show ¬ nI k = 4 from fun z => absurd ((nI_eq (a := k) (b := 4) (by omega) (by decide)).mp z) (by omega))]
    rw [h.wi, Option.bind_some, vF_s2, nI_1]
    rfl
theorem w_name {I : MI} {Q : RouV} {T : Nat} (t : RTap I Q T) {J : MJ} (h : RefL J) (g m v : Int32) (S : RowV) {s n : Nat} (hn : s + n ≤ T) (n4 : n ≤ 4) (hl : ∀ j, j < n → Lt (Q 1 (s + j))) (he : s + n = T ∨ ¬ Lt (Q 1 (s + n))) : M_X10_nameHere [mR (some 188)] (vF I (nI s) 0 g m v S, J) = some (some (mI (rnm (Q 1) s n)), (vF I (nI (s + n)) 0 g m v S, J)) := by
  have T4 := t.1.1
  rw [E_X10_nameHere]
  simp only [h.fi, vF_2, Option.bind_some]
  rw [name_go t h g m v S hn n4 hl n (Nat.le_refl _), E_X10_nameHere_7]
  simp only [h.fi, vF_4, vF_2, vF_3, t.2.1, Option.bind_some, if_true, h.f0]
  by_cases z : s + n = T
  · rw [if_pos (by rw [z]; exact Int32.le_refl _)]
  · have lt : s + n < T := by omega
    rw [if_neg (nI_ge lt (by omega)), rt_lv t h _ _ _ _ _ _ lt rfl]
    simp only [Option.bind_some, w_isLetter, asI_I]
    rcases t.1.lt lt with ⟨_, q2⟩ | ⟨q1, _⟩
    · exact absurd q2 (he.resolve_left z)
    · rw [q1, if_pos rfl]
theorem w_name5 {I : MI} {Q : RouV} {T : Nat} (t : RTap I Q T) {J : MJ} (h : RefL J) (g m v : Int32) (S : RowV) {s : Nat} (hn : s + 5 ≤ T) (hl : ∀ j, j < 5 → Lt (Q 1 (s + j))) : ∃ y, M_X10_nameHere [mR (some 188)] (vF I (nI s) 0 g m v S, J) = some (some (mI y), (vF I (nI (s + 5)) 1 (nI (s + 4)) m v S, J)) := by
  have T4 := t.1.1
  rw [E_X10_nameHere]
  simp only [h.fi, vF_2, Option.bind_some]
  rw [name_go t h g m v S (n := 4) (by omega) (Nat.le_refl _) (fun j hj => hl j (by omega)) 4 (Nat.le_refl _), E_X10_nameHere_7]
  simp only [h.fi, vF_4, vF_2, vF_3, t.2.1, Option.bind_some, if_true, h.f0, rt_lv t h _ _ _ _ _ _ (show s + 4 < T by omega) rfl, w_isLetter, asI_I, lt_q (hl 4 (by omega)), if_neg i10, h.kt]
  rw [if_neg (nI_ge (show s + 4 < T by omega) (by omega)), nI_sub (by omega), show s + 4 - s = 4 by omega, if_pos (show nI 4 = 4 from rfl), w_fail0 h]
  simp only [h.fi, vF_2, Option.bind_some, asV_n, h.f0, rt_lv t h _ _ _ _ _ _ (show s + 4 < T by omega) rfl, h.wi, vF_s2, nI_1]
  rw [E_X10_nameHere_7]
  simp only [h.fi, vF_4, Option.bind_some, if_neg i10]
  exact ⟨_, rfl⟩
theorem w_name1 {J : MJ} (h : RefL J) (I : MI) (p b g m v : Int32) (S : RowV) (hb : ¬ b = 0) : M_X10_nameHere [mR (some 188)] (vF I p b g m v S, J) = some (some (mI 0), (vF I p b g m v S, J)) := by
  rw [E_X10_nameHere]
  simp only [h.fi, vF_2, Option.bind_some]
  rw [E_X10_nameHere_7]
  simp only [h.fi, vF_4, Option.bind_some, if_neg hb]

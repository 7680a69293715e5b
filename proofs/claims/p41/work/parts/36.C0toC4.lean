section
/-! The reference's reader of TREES: its small pieces. -/
/-- while it reads: at is p, bad b, badPlace g, draftMany m, draftVolumes v, draft (191) S -/
def vF (I : MI) (p b g m v : Int32) (S : RowV) : MI := fun a j => if a = 191 then S j else if a = 188 then (if j = 2 then p else if j = 4 then b else if j = 5 then g else if j = 10 then m else if j = 12 then v else I 188 j) else I a j
theorem vF_S (I : MI) (p b g m v : Int32) (S : RowV) : vF I p b g m v S 191 = S := by
  funext j
  exact if_pos rfl
theorem vF_2 (I : MI) (p b g m v : Int32) (S : RowV) : vF I p b g m v S 188 2 = p := by simp [vF]
theorem vF_4 (I : MI) (p b g m v : Int32) (S : RowV) : vF I p b g m v S 188 4 = b := by simp [vF]
theorem vF_5 (I : MI) (p b g m v : Int32) (S : RowV) : vF I p b g m v S 188 5 = g := by simp [vF]
theorem vF_10 (I : MI) (p b g m v : Int32) (S : RowV) : vF I p b g m v S 188 10 = m := by simp [vF]
theorem vF_12 (I : MI) (p b g m v : Int32) (S : RowV) : vF I p b g m v S 188 12 = v := by simp [vF]
theorem vF_k (I : MI) (p b g m v : Int32) (S : RowV) {k : Nat} (h2 : k ≠ 2) (h4 : k ≠ 4) (h5 : k ≠ 5) (h10 : k ≠ 10) (h12 : k ≠ 12) : vF I p b g m v S 188 k = I 188 k := by simp [vF, h2, h4, h5, h10, h12]
theorem vF_3 (I : MI) (p b g m v : Int32) (S : RowV) : vF I p b g m v S 188 3 = I 188 3 := vF_k _ _ _ _ _ _ _ (by decide) (by decide) (by decide) (by decide) (by decide)
theorem vF_o (I : MI) (p b g m v : Int32) (S : RowV) {a : Nat} (h1 : a ≠ 188) (h2 : a ≠ 191) : vF I p b g m v S a = I a := by
  funext j
  unfold vF
  rw [if_neg h2, if_neg h1]
theorem vF_s2 (I : MI) (p b g m v : Int32) (S : RowV) (x : Int32) : up2 (vF I p b g m v S) 188 2 x = vF I x b g m v S := by
  funext a j
  unfold up2 vF
  by_cases h : a = 188
  · subst h
    by_cases c : j = 2
    · simp [c]
    · simp [c]
  · simp [h]
theorem vF_s4 (I : MI) (p b g m v : Int32) (S : RowV) (x : Int32) : up2 (vF I p b g m v S) 188 4 x = vF I p x g m v S := by
  funext a j
  unfold up2 vF
  by_cases h : a = 188
  · subst h
    by_cases c : j = 4
    · simp [c]
    · simp [c]
  · simp [h]
theorem vF_s5 (I : MI) (p b g m v : Int32) (S : RowV) (x : Int32) : up2 (vF I p b g m v S) 188 5 x = vF I p b x m v S := by
  funext a j
  unfold up2 vF
  by_cases h : a = 188
  · subst h
    by_cases c : j = 5
    · simp [c]
    · simp [c]
  · simp [h]
theorem vF_s10 (I : MI) (p b g m v : Int32) (S : RowV) (x : Int32) : up2 (vF I p b g m v S) 188 10 x = vF I p b g x v S := by
  funext a j
  unfold up2 vF
  by_cases h : a = 188
  · subst h
    by_cases c : j = 10
    · simp [c]
    · simp [c]
  · simp [h]
theorem vF_s12 (I : MI) (p b g m v : Int32) (S : RowV) (x : Int32) : up2 (vF I p b g m v S) 188 12 x = vF I p b g m x S := by
  funext a j
  unfold up2 vF
  by_cases h : a = 188
  · subst h
    by_cases c : j = 12
    · simp [c]
    · simp [c]
  · simp [h]
theorem vF_sS (I : MI) (p b g m v : Int32) (S : RowV) (i : Nat) (x : Int32) : up2 (vF I p b g m v S) 191 i x = vF I p b g m v (sD S i x) := by
  funext a j
  unfold up2 vF sD
  by_cases h : a = 191
  · subst h
    simp
  · simp [h]
theorem RefL.f9 {J : MJ} (h : RefL J) (I : MI) : fR (I, J) 10 188 9 = some (some 191) := by rw [fR_ok 9 h.k, h.r9]
theorem rt_lv {I : MI} {Q : RouV} {T : Nat} (t : RTap I Q T) {J : MJ} (h : RefL J) (p b g m v : Int32) (S : RowV) {k : Nat} (hk : k < T) {x : Int32} (hx : x = nI k) : ld (vF I p b g m v S, J) 11 189 x = some (Q 1 k) := by
  have := t.1.1
  rw [ldx h.s0 (show k < 400 by omega) (by decide) hx, vF_o _ _ _ _ _ _ _ (by decide) (by decide), t.2.2 k hk]
/-- a blank -/
def Bk (c : Int32) : Prop := c = 10 ∨ c = 32
/-- blanks from p to s, none at s -/
def Sk (Q : RouV) (T p s : Nat) : Prop := p ≤ s ∧ s ≤ T ∧ (∀ k, p ≤ k → k < s → Bk (Q 1 k)) ∧ (s = T ∨ ¬ Bk (Q 1 s))
theorem Sk.ex (Q : RouV) {T p : Nat} (h : p ≤ T) : ∃ s, Sk Q T p s := by
  obtain ⟨s, s1, s2, s3, s4⟩ := ex_first (fun k => ¬ Bk (Q 1 k)) p T h
  refine ⟨s, s1, s2, fun k a b => ?_, s4⟩
  exact Classical.not_not.mp (s3 k a b)
theorem Sk.back {Q : RouV} {T p s q : Nat} (h : Sk Q T p s) (hq : q ≤ p) (hb : ∀ k, q ≤ k → k < p → Bk (Q 1 k)) : Sk Q T q s := by
  obtain ⟨s1, s2, s3, s4⟩ := h
  refine ⟨by omega, s2, fun k a b => ?_, s4⟩
  rcases Nat.lt_or_ge k p with z | z
  · exact hb k a z
  · exact s3 k z b
theorem Sk.self {Q : RouV} {T p s : Nat} (h : Sk Q T p s) : Sk Q T s s := ⟨Nat.le_refl _, h.2.1, fun k a b => by omega, h.2.2.2⟩
theorem Sk.uniq {Q : RouV} {T p s : Nat} (h : Sk Q T p s) (hp : p = T ∨ ¬ Bk (Q 1 p)) : s = p := by
  obtain ⟨s1, s2, s3, s4⟩ := h
  rcases Nat.eq_or_lt_of_le s1 with z | z
  · exact z.symm
  · rcases hp with y | y
    · omega
    · exact absurd (s3 p (Nat.le_refl _) z) y
/-- the class's blanks skipped -/
theorem skip_go {Q : RouV} {T : Nat} (t : Tap Q T) {s : Nat} : ∀ (f p : Nat) (E : OneV), Sk Q T p s → E 0 3 = nI p → T - p ≤ f → lp_X3_skipBlanks Q f E = uv E 0 3 (nI s)
  | 0, p, E, h, e, hf => by
    obtain ⟨s1, s2, _, _⟩ := h
    have : s = p := by omega
    subst this
    show E = uv E 0 3 (nI s)
    funext a j
    unfold uv
    split
    · rename_i z; rw [z.1, z.2, e]
    · rfl
  | f + 1, p, E, h, e, hf => by
    have T4 := t.1
    have st : lp_X3_skipBlanks Q (f + 1) E = if (Q 0 1) ≤ (E 0 3) then E else if (q_X5_at Q (E 0 3)) = 32 then lp_X3_skipBlanks Q f (uv E 0 3 ((E 0 3) + 1)) else if (q_X5_at Q (E 0 3)) = 10 then lp_X3_skipBlanks Q f (uv E 0 3 ((E 0 3) + 1)) else E := rfl
    have id : s = p → E = uv E 0 3 (nI s) := fun z => by
      funext a j
      unfold uv
      split
      · rename_i y; rw [y.1, y.2, e, z]
      · rfl
    have h' := h
    obtain ⟨s1, s2, s3, s4⟩ := h
    rw [st, e, t.2.1]
    by_cases z : p = T
    · rw [if_pos (by rw [z]; exact Int32.le_refl _)]
      exact id (by omega)
    · have lt : p < T := by omega
      rw [if_neg (nI_ge lt (by omega)), t.in lt]
      have nx : Bk (Q 1 p) → lp_X3_skipBlanks Q f (uv E 0 3 (nI p + 1)) = uv E 0 3 (nI s) := fun b => by
        have ps : p < s := by
          rcases Nat.eq_or_lt_of_le s1 with y | y
          · subst y
            rcases s4 with w | w
            · omega
            · exact absurd b w
          · exact y
        rw [nI_1, skip_go t f (p + 1) (uv E 0 3 (nI (p + 1))) ⟨by omega, s2, fun k a b => s3 k (by omega) b, s4⟩ (uv_s _ _ _ _) (by omega)]
        funext a j
        unfold uv
        split <;> simp_all
      by_cases c1 : Q 1 p = 32
      · rw [if_pos c1]; exact nx (Or.inr c1)
      · rw [if_neg c1]
        by_cases c2 : Q 1 p = 10
        · rw [if_pos c2]; exact nx (Or.inl c2)
        · rw [if_neg c2]
          refine id ?_
          exact h'.uniq (Or.inr (fun y => y.elim c2 c1))
theorem skip_q {Q : RouV} {T : Nat} (t : Tap Q T) {p s : Nat} {E : OneV} (h : Sk Q T p s) (e : E 0 3 = nI p) : gE_X3_skipBlanks E Q = uv E 0 3 (nI s) := by
  have T4 := t.1
  have := h.1
  have := h.2.1
  unfold gE_X3_skipBlanks
  refine skip_go t _ p E h e ?_
  rw [e, t.2.1, nI_toInt (by omega), nI_toInt (by omega)]
  omega
/-- the reference's blanks skipped -/
theorem look_go {I : MI} {Q : RouV} {T : Nat} (t : RTap I Q T) {J : MJ} (h : RefL J) (b g m v : Int32) (S : RowV) {s : Nat} : ∀ (f p : Nat), Sk Q T p s → s - p ≤ f → Ev T_X10_look0 0 [some (mR (some 188))] [] (vF I (nI p) b g m v S, J) = some (some (mI (q_X5_at Q (nI s))), (vF I (nI s) b g m v S, J))
  | f, p, hs, hf => by
    have T4 := t.1.1
    have hs' := hs
    obtain ⟨s1, s2, s3, s4⟩ := hs
    rw [E_X10_look0_0]
    simp only [h.fi, vF_2, vF_3, t.2.1, Option.bind_some, h.f0]
    by_cases z : p = T
    · have e : s = p := by omega
      subst e
      rw [if_pos (by rw [z]; exact Int32.le_refl _), if_pos (by rw [z]; exact Int32.le_refl _), t.1.out (by omega) (by omega)]
    · have lt : p < T := by omega
      rw [if_neg (nI_ge lt (by omega)), rt_lv t h _ _ _ _ _ _ lt rfl]
      simp only [Option.bind_some, if_neg (nI_ge lt (show T < 2 ^ 31 by omega))]
      by_cases ps : s = p
      · subst ps
        have nb : ¬ Bk (Q 1 s) := by
          rcases s4 with w | w
          · omega
          · exact w
        rw [if_neg (fun y => nb (Or.inl y)), if_neg (fun y => nb (Or.inr y)), t.1.in lt]
      · have bk := s3 p (Nat.le_refl _) (by omega)
        have nx : (wI (vF I (nI p) b g m v S, J) 10 188 2 (nI p + 1)).bind (fun s14 => Ev T_X10_look0 0 [some (mR (some 188))] [] s14) = some (some (mI (q_X5_at Q (nI s))), (vF I (nI s) b g m v S, J)) := by
          rw [h.wi, Option.bind_some, vF_s2, nI_1]
          match f, hf with
          | 0, hf => omega
          | f + 1, hf => exact look_go t h b g m v S f (p + 1) ⟨by omega, s2, fun k a b => s3 k (by omega) b, s4⟩ (by omega)
        by_cases c1 : Q 1 p = 10
        · rw [if_pos c1]; exact nx
        · rw [if_neg c1, if_pos (bk.resolve_left c1)]; exact nx
theorem w_look0 {I : MI} {Q : RouV} {T : Nat} (t : RTap I Q T) {J : MJ} (h : RefL J) (b g m v : Int32) (S : RowV) {p s : Nat} (hs : Sk Q T p s) : M_X10_look0 [mR (some 188)] (vF I (nI p) b g m v S, J) = some (some (mI (q_X5_at Q (nI s))), (vF I (nI s) b g m v S, J)) := by
  rw [E_X10_look0]
  exact look_go t h b g m v S _ p hs (Nat.le_refl _)
theorem w_fail0 {J : MJ} (h : RefL J) (I : MI) (p g m v : Int32) (S : RowV) (k x : Int32) : M_X10_fail [mR (some 188), mI k, mI x] (vF I p 0 g m v S, J) = some (none, (vF I p k x m v S, J)) := by
  rw [E_X10_fail]
  simp only [h.fi, vF_4, Option.bind_some, if_true, h.wi, vF_s4, vF_s5]
theorem w_fail1 {J : MJ} (h : RefL J) (I : MI) (p b g m v : Int32) (S : RowV) (k x : Int32) (hb : ¬ b = 0) : M_X10_fail [mR (some 188), mI k, mI x] (vF I p b g m v S, J) = some (none, (vF I p b g m v S, J)) := by
  rw [E_X10_fail]
  simp only [h.fi, vF_4, Option.bind_some, if_neg hb]
theorem i4 (k f : Nat) : (4 : Int32) * nI k + nI f = nI (4 * k + f) := by
  rw [show (4 : Int32) = nI 4 from rfl, nI_mul, nI_add]
theorem w_drafted {J : MJ} (h : RefL J) (I : MI) (p b g m v : Int32) (S : RowV) {k f : Nat} {x : Int32} (hx : x = nI f) (hk : 4 * k + f < 240) : M_X10_drafted [mR (some 188), mI (nI k), mI x] (vF I p b g m v S, J) = some (some (mI (S (4 * k + f))), (vF I p b g m v S, J)) := by
  subst hx
  rw [E_X10_drafted, i4]
  simp only [h.f9, Option.bind_some, ldx h.s9 hk (by decide) rfl, vF_S]
/-- a name read -/
theorem name_go {I : MI} {Q : RouV} {T : Nat} (t : RTap I Q T) {J : MJ} (h : RefL J) (g m v : Int32) (S : RowV) {s n : Nat} (hn : s + n ≤ T) (n4 : n ≤ 4) (hl : ∀ j, j < n → Lt (Q 1 (s + j))) : ∀ k, k ≤ n → Ev T_X10_nameHere 7 [some (mR (some 188)), some (mI (nI s)), some (mI 0)] [] (vF I (nI s) 0 g m v S, J) = Ev T_X10_nameHere 7 [some (mR (some 188)), some (mI (nI s)), some (mI (rnm (Q 1) s k))] [] (vF I (nI (s + k)) 0 g m v S, J)
  | 0, _ => rfl
  | k + 1, hk => by
    have T4 := t.1.1
    rw [name_go t h g m v S hn n4 hl k (by omega), E_X10_nameHere_7]
    simp only [h.fi, vF_4, vF_2, vF_3, t.2.1, Option.bind_some, if_true, h.f0, rt_lv t h _ _ _ _ _ _ (show s + k < T by omega) rfl, w_isLetter, asI_I, lt_q (hl k (by omega)), if_neg i10]
    rw [if_neg (nI_ge (show s + k < T by omega) (by omega)), nI_sub (by omega), show s + k - s = k by omega, if_neg (show ¬ nI k = 4 from fun z => absurd ((nI_eq (a := k) (b := 4) (by omega) (by decide)).mp z) (by omega))]
    rw [h.wi, Option.bind_some, vF_s2, nI_1]
    rfl
theorem w_name {I : MI} {Q : RouV} {T : Nat} (t : RTap I Q T) {J : MJ} (h : RefL J) (g m v : Int32) (S : RowV) {s n : Nat} (hn : s + n ≤ T) (n4 : n ≤ 4) (hl : ∀ j, j < n → Lt (Q 1 (s + j))) (he : s + n = T ∨ ¬ Lt (Q 1 (s + n))) : M_X10_nameHere [mR (some 188)] (vF I (nI s) 0 g m v S, J) = some (some (mI (rnm (Q 1) s n)), (vF I (nI (s + n)) 0 g m v S, J)) := by
  have T4 := t.1.1
  rw [E_X10_nameHere]
  simp only [h.fi, vF_2, Option.bind_some]
  rw [name_go t h g m v S hn n4 hl n (Nat.le_refl _), E_X10_nameHere_7]
  simp only [h.fi, vF_4, vF_2, vF_3, t.2.1, Option.bind_some, if_true, h.f0]
  by_cases z : s + n = T
  · rw [if_pos (by rw [z]; exact Int32.le_refl _)]
  · have lt : s + n < T := by omega
    rw [if_neg (nI_ge lt (by omega)), rt_lv t h _ _ _ _ _ _ lt rfl]
    simp only [Option.bind_some, w_isLetter, asI_I]
    rcases t.1.lt lt with ⟨_, q2⟩ | ⟨q1, _⟩
    · exact absurd q2 (he.resolve_left z)
    · rw [q1, if_pos rfl]
theorem w_name5 {I : MI} {Q : RouV} {T : Nat} (t : RTap I Q T) {J : MJ} (h : RefL J) (g m v : Int32) (S : RowV) {s : Nat} (hn : s + 5 ≤ T) (hl : ∀ j, j < 5 → Lt (Q 1 (s + j))) : ∃ y, M_X10_nameHere [mR (some 188)] (vF I (nI s) 0 g m v S, J) = some (some (mI y), (vF I (nI (s + 5)) 1 (nI (s + 4)) m v S, J)) := by
  have T4 := t.1.1
  rw [E_X10_nameHere]
  simp only [h.fi, vF_2, Option.bind_some]
  rw [name_go t h g m v S (n := 4) (by omega) (Nat.le_refl _) (fun j hj => hl j (by omega)) 4 (Nat.le_refl _), E_X10_nameHere_7]
  simp only [h.fi, vF_4, vF_2, vF_3, t.2.1, Option.bind_some, if_true, h.f0, rt_lv t h _ _ _ _ _ _ (show s + 4 < T by omega) rfl, w_isLetter, asI_I, lt_q (hl 4 (by omega)), if_neg i10, h.kt]
  rw [if_neg (nI_ge (show s + 4 < T by omega) (by omega)), nI_sub (by omega), show s + 4 - s = 4 by omega, if_pos (show nI 4 = 4 from rfl), w_fail0 h]
  simp only [h.fi, vF_2, Option.bind_some, asV_n, h.f0, rt_lv t h _ _ _ _ _ _ (show s + 4 < T by omega) rfl, h.wi, vF_s2, nI_1]
  rw [E_X10_nameHere_7]
  simp only [h.fi, vF_4, Option.bind_some, if_neg i10]
  exact ⟨_, rfl⟩
theorem w_name1 {J : MJ} (h : RefL J) (I : MI) (p b g m v : Int32) (S : RowV) (hb : ¬ b = 0) : M_X10_nameHere [mR (some 188)] (vF I p b g m v S, J) = some (some (mI 0), (vF I p b g m v S, J)) := by
  rw [E_X10_nameHere]
  simp only [h.fi, vF_2, Option.bind_some]
  rw [E_X10_nameHere_7]
  simp only [h.fi, vF_4, Option.bind_some, if_neg hb]
end
section
/-! A node drafted, by the reference. -/
def dS (S : RowV) (n : Nat) (v fl x nm : Int32) : RowV := sD (sD (sD (sD S (4 * n + 0) v) (4 * n + 1) fl) (4 * n + 2) x) (4 * n + 3) nm
theorem dS_o (S : RowV) {n : Nat} (v fl x nm : Int32) {j : Nat} (h : j < 4 * n) : dS S n v fl x nm j = S j := by
  unfold dS
  rw [sD_n _ _ (by omega), sD_n _ _ (by omega), sD_n _ _ (by omega), sD_n _ _ (by omega)]
theorem dS_0 (S : RowV) (n : Nat) (v fl x nm : Int32) : dS S n v fl x nm (4 * n) = v := by
  unfold dS
  rw [sD_n _ _ (by omega), sD_n _ _ (by omega), sD_n _ _ (by omega)]
  exact sD_s _ _ _
theorem dS_1 (S : RowV) (n : Nat) (v fl x nm : Int32) : dS S n v fl x nm (4 * n + 1) = fl := by
  unfold dS
  rw [sD_n _ _ (by omega), sD_n _ _ (by omega), sD_s]
theorem dS_2 (S : RowV) (n : Nat) (v fl x nm : Int32) : dS S n v fl x nm (4 * n + 2) = x := by
  unfold dS
  rw [sD_n _ _ (by omega), sD_s]
theorem dS_3 (S : RowV) (n : Nat) (v fl x nm : Int32) : dS S n v fl x nm (4 * n + 3) = nm := by
  unfold dS
  rw [sD_s]
theorem i4_0 (n : Nat) : (4 : Int32) * nI n = nI (4 * n + 0) := by
  rw [show (4 : Int32) = nI 4 from rfl, nI_mul, Nat.add_zero]
theorem i4_1 (n : Nat) : (4 : Int32) * nI n + 1 = nI (4 * n + 1) := i4 n 1
theorem i4_2 (n : Nat) : (4 : Int32) * nI n + 2 = nI (4 * n + 2) := i4 n 2
theorem i4_3 (n : Nat) : (4 : Int32) * nI n + 3 = nI (4 * n + 3) := i4 n 3
theorem nI_p (n : Nat) : nI (n + 1) - 1 = nI n := by
  rw [show (1 : Int32) = nI 1 from rfl, nI_sub (by omega)]
  rfl
theorem stS {J : MJ} (h : RefL J) (I : MI) (p b g m v : Int32) (S : RowV) {k : Nat} (hk : k < 240) {x : Int32} (hx : x = nI k) (y : Int32) : st (vF I p b g m v S, J) 11 191 x y = some (vF I p b g m v (sD S k y), J) := by
  rw [stx h.s9 hk (by decide) hx, vF_sS]
/-- the end of the loop, nothing wrong -/
theorem dr_end {J : MJ} (h : RefL J) (I : MI) (p g v : Int32) (S : RowV) {n : Nat} (n40 : n < 40) (x1 x2 x3 : Int32) : Ev T_X10_drafts 27 [some (mR (some 188)), some (mI x1), some (mI x2), some (mI x3), some (mI (nI n))] [] (vF I p 0 g (nI n) v S, J) = some (some (mI (nI n)), (vF I p 0 g (nI (n + 1)) v (dS S n v (if x1 = -1 then 1 else 0) x1 x2), J)) := by
  have s0 : ∀ S y, st (vF I p 0 g (nI n) v S, J) 11 191 (4 * nI n) y = some (vF I p 0 g (nI n) v (sD S (4 * n + 0) y), J) := fun S y => stS h I p 0 g (nI n) v S (by omega) (i4_0 n) y
  have s1 : ∀ S y, st (vF I p 0 g (nI n) v S, J) 11 191 (4 * nI n + 1) y = some (vF I p 0 g (nI n) v (sD S (4 * n + 1) y), J) := fun S y => stS h I p 0 g (nI n) v S (by omega) (i4_1 n) y
  have s2 : ∀ S y, st (vF I p 0 g (nI n) v S, J) 11 191 (4 * nI n + 2) y = some (vF I p 0 g (nI n) v (sD S (4 * n + 2) y), J) := fun S y => stS h I p 0 g (nI n) v S (by omega) (i4_2 n) y
  have s3 : ∀ S y, st (vF I p 0 g (nI n) v S, J) 11 191 (4 * nI n + 3) y = some (vF I p 0 g (nI n) v (sD S (4 * n + 3) y), J) := fun S y => stS h I p 0 g (nI n) v S (by omega) (i4_3 n) y
  rw [E_X10_drafts_27]
  simp only [h.fi, vF_10, vF_4, vF_12, Option.bind_some, h.f9, if_pos (Int32.le_refl (nI n)), if_true, s0]
  by_cases z : x1 = -1
  · simp only [if_pos z, w_flag, Option.bind_some, asI_I, s1, s2, s3, h.f9, h.fi, vF_10, h.wi, vF_s10, nI_1, nI_p]
    rfl
  · simp only [if_neg z, w_flag, Option.bind_some, asI_I, s1, s2, s3, h.f9, h.fi, vF_10, h.wi, vF_s10, nI_1, nI_p]
    rfl
theorem dr_bad {J : MJ} (h : RefL J) (I : MI) (p b g v : Int32) (S : RowV) {n : Nat} (hb : ¬ b = 0) (x1 x2 x3 : Int32) : Ev T_X10_drafts 27 [some (mR (some 188)), some (mI x1), some (mI x2), some (mI x3), some (mI (nI n))] [] (vF I p b g (nI n) v S, J) = some (some (mI (-1)), (vF I p b g (nI n) v S, J)) := by
  rw [E_X10_drafts_27]
  simp only [h.fi, vF_10, vF_4, Option.bind_some, if_pos (Int32.le_refl (nI n)), if_neg hb]
/-- whether a sibling has the name -/
def Twi (S : RowV) (x1 x2 : Int32) (k n : Nat) : Prop := ∃ j, k ≤ j ∧ j < n ∧ S (4 * j + 2) = x1 ∧ S (4 * j + 3) = x2
theorem dr_go {J : MJ} (h : RefL J) (I : MI) (p v : Int32) (S : RowV) {n : Nat} (n40 : n ≤ 40) (x1 x2 x3 : Int32) (h1 : ¬ x1 = -1) : ∀ (nn k : Nat) (b g : Int32), k + nn = n → ∃ b' g', Ev T_X10_drafts 27 [some (mR (some 188)), some (mI x1), some (mI x2), some (mI x3), some (mI (nI k))] [] (vF I p b g (nI n) v S, J) = Ev T_X10_drafts 27 [some (mR (some 188)), some (mI x1), some (mI x2), some (mI x3), some (mI (nI n))] [] (vF I p b' g' (nI n) v S, J) ∧ (¬ b = 0 → ¬ b' = 0) ∧ (Twi S x1 x2 k n → ¬ b' = 0) ∧ (b = 0 → ¬ Twi S x1 x2 k n → b' = 0 ∧ g' = g)
  | 0, k, b, g, hk => by
    have : k = n := by omega
    subst this
    refine ⟨b, g, rfl, fun z => z, fun ⟨j, a, b, _⟩ => by omega, fun z _ => ⟨z, rfl⟩⟩
  | nn + 1, k, b, g, hk => by
    have nx : Ev T_X10_drafts 27 [some (mR (some 188)), some (mI x1), some (mI x2), some (mI x3), some (mI (nI k))] [] (vF I p b g (nI n) v S, J) = if S (4 * k + 2) = x1 ∧ S (4 * k + 3) = x2 then (M_X10_fail [mR (some 188), mI 3, mI x3] (vF I p b g (nI n) v S, J)).bind (fun u72 => (asV u72.1).bind fun _ => Ev T_X10_drafts 27 [some (mR (some 188)), some (mI x1), some (mI x2), some (mI x3), some (mI (nI (k + 1)))] [] u72.2) else Ev T_X10_drafts 27 [some (mR (some 188)), some (mI x1), some (mI x2), some (mI x3), some (mI (nI (k + 1)))] [] (vF I p b g (nI n) v S, J) := by
      rw [E_X10_drafts_27]
      simp only [h.fi, vF_10, Option.bind_some, h.kt, if_true, if_neg h1, w_drafted h I p b g (nI n) v S (show (2 : Int32) = nI 2 from rfl) (show 4 * k + 2 < 240 by omega), w_drafted h I p b g (nI n) v S (show (3 : Int32) = nI 3 from rfl) (show 4 * k + 3 < 240 by omega), asI_I, nI_1]
      rw [if_neg (nI_ge (show k < n by omega) (by omega))]
      by_cases c : S (4 * k + 2) = x1
      · by_cases d : S (4 * k + 3) = x2
        · rw [if_pos c, if_pos d, if_pos ⟨c, d⟩]
        · rw [if_pos c, if_neg d, if_neg (fun z => d z.2)]
      · rw [if_neg c, if_neg (fun z => c z.1)]
    have tw : ∀ q, Twi S x1 x2 k n → q = (S (4 * k + 2) = x1 ∧ S (4 * k + 3) = x2) → q ∨ Twi S x1 x2 (k + 1) n := fun q ⟨j, j1, j2, j3, j4⟩ e => by
      rcases Nat.eq_or_lt_of_le j1 with z | z
      · subst z; exact Or.inl (by rw [e]; exact ⟨j3, j4⟩)
      · exact Or.inr ⟨j, by omega, j2, j3, j4⟩
    by_cases c : S (4 * k + 2) = x1 ∧ S (4 * k + 3) = x2
    · rw [if_pos c] at nx
      have tk : Twi S x1 x2 k n := ⟨k, Nat.le_refl _, by omega, c.1, c.2⟩
      by_cases hb : b = 0
      · subst hb
        obtain ⟨b', g', e1, e2, _, _⟩ := dr_go h I p v S n40 x1 x2 x3 h1 nn (k + 1) 3 x3 (by omega)
        rw [w_fail0 h] at nx
        simp only [Option.bind_some, asV_n] at nx
        refine ⟨b', g', nx.trans e1, fun z => absurd rfl z, fun _ => e2 (by decide), fun _ z => absurd tk z⟩
      · obtain ⟨b', g', e1, e2, _, _⟩ := dr_go h I p v S n40 x1 x2 x3 h1 nn (k + 1) b g (by omega)
        rw [w_fail1 h _ _ _ _ _ _ _ _ _ hb] at nx
        simp only [Option.bind_some, asV_n] at nx
        refine ⟨b', g', nx.trans e1, e2, fun _ => e2 hb, fun _ z => absurd tk z⟩
    · rw [if_neg c] at nx
      obtain ⟨b', g', e1, e2, e3, e4⟩ := dr_go h I p v S n40 x1 x2 x3 h1 nn (k + 1) b g (by omega)
      refine ⟨b', g', nx.trans e1, e2, fun z => ?_, fun z w => e4 z (fun ⟨j, j1, j2, j3⟩ => w ⟨j, by omega, j2, j3⟩)⟩
      rcases tw _ z rfl with y | y
      · exact absurd y c
      · exact e3 y
theorem n40I {n : Nat} (h : n < 40) : ¬ nI n = 40 := fun z => absurd ((nI_eq (a := n) (b := 40) (by omega) (by decide)).mp z) (by omega)
/-- one told twice -/
theorem w_drafts_two {J : MJ} (h : RefL J) (I : MI) (p g v : Int32) (S : RowV) {n : Nat} (n40 : n < 40) (x1 x2 x3 : Int32) (h1 : ¬ x1 = -1) (tw : Twi S x1 x2 0 n) : ∃ b' g', ¬ b' = 0 ∧ M_X10_drafts [mR (some 188), mI x1, mI x2, mI x3] (vF I p 0 g (nI n) v S, J) = some (some (mI (-1)), (vF I p b' g' (nI n) v S, J)) := by
  obtain ⟨b', g', e1, _, e3, _⟩ := dr_go h I p v S (n := n) (by omega) x1 x2 x3 h1 n 0 0 g (by omega)
  refine ⟨b', g', e3 tw, ?_⟩
  rw [E_X10_drafts]
  simp only [h.fi, vF_10, vF_4, Option.bind_some, if_neg (n40I n40), if_true]
  exact e1.trans (dr_bad h I p b' g' v S (e3 tw) x1 x2 x3)
theorem w_drafts {J : MJ} (h : RefL J) (I : MI) (p g v : Int32) (S : RowV) {n : Nat} (n40 : n < 40) (x1 x2 x3 : Int32) (h1 : ¬ x1 = -1) (tw : ¬ Twi S x1 x2 0 n) : M_X10_drafts [mR (some 188), mI x1, mI x2, mI x3] (vF I p 0 g (nI n) v S, J) = some (some (mI (nI n)), (vF I p 0 g (nI (n + 1)) v (dS S n v 0 x1 x2), J)) := by
  obtain ⟨b', g', e1, _, _, e4⟩ := dr_go h I p v S (n := n) (by omega) x1 x2 x3 h1 n 0 0 g (by omega)
  obtain ⟨z1, z2⟩ := e4 rfl tw
  subst z1 z2
  rw [E_X10_drafts]
  simp only [h.fi, vF_10, vF_4, Option.bind_some, if_neg (n40I n40), if_true]
  refine (e1.trans (dr_end h I p g' v S n40 x1 x2 x3)).trans ?_
  rw [if_neg h1]
theorem w_drafts_root {J : MJ} (h : RefL J) (I : MI) (p g v : Int32) (S : RowV) {n : Nat} (n40 : n < 40) (x3 : Int32) : M_X10_drafts [mR (some 188), mI (-1), mI 0, mI x3] (vF I p 0 g (nI n) v S, J) = some (some (mI (nI n)), (vF I p 0 g (nI (n + 1)) v (dS S n v 1 (-1) 0), J)) := by
  have s0 : ∀ S y, st (vF I p 0 g (nI n) v S, J) 11 191 (4 * nI n) y = some (vF I p 0 g (nI n) v (sD S (4 * n + 0) y), J) := fun S y => stS h I p 0 g (nI n) v S (by omega) (i4_0 n) y
  have s1 : ∀ S y, st (vF I p 0 g (nI n) v S, J) 11 191 (4 * nI n + 1) y = some (vF I p 0 g (nI n) v (sD S (4 * n + 1) y), J) := fun S y => stS h I p 0 g (nI n) v S (by omega) (i4_1 n) y
  have s2 : ∀ S y, st (vF I p 0 g (nI n) v S, J) 11 191 (4 * nI n + 2) y = some (vF I p 0 g (nI n) v (sD S (4 * n + 2) y), J) := fun S y => stS h I p 0 g (nI n) v S (by omega) (i4_2 n) y
  have s3 : ∀ S y, st (vF I p 0 g (nI n) v S, J) 11 191 (4 * nI n + 3) y = some (vF I p 0 g (nI n) v (sD S (4 * n + 3) y), J) := fun S y => stS h I p 0 g (nI n) v S (by omega) (i4_3 n) y
  rw [E_X10_drafts]
  simp only [h.fi, vF_10, vF_4, Option.bind_some, if_neg (n40I n40), if_true]
  rw [E_X10_drafts_27]
  by_cases z : nI n ≤ 0
  · simp only [h.fi, vF_10, vF_4, vF_12, Option.bind_some, h.f9, if_pos z, if_true, s0, w_flag, asI_I, s1, s2, s3, h.wi, vF_s10, nI_1, nI_p, if_neg i10]
    rfl
  · simp only [h.fi, vF_10, vF_4, vF_12, Option.bind_some, h.f9, if_neg z, if_true, s0, w_flag, asI_I, s1, s2, s3, h.wi, vF_s10, nI_1, nI_p, if_neg i10]
    rfl
theorem w_drafts_full {J : MJ} (h : RefL J) (I : MI) (p g v : Int32) (S : RowV) (x1 x2 x3 : Int32) : M_X10_drafts [mR (some 188), mI x1, mI x2, mI x3] (vF I p 0 g (nI 40) v S, J) = some (some (mI (-1)), (vF I p 5 x3 (nI 40) v S, J)) := by
  rw [E_X10_drafts]
  simp only [h.fi, vF_10, Option.bind_some, if_pos (show nI 40 = 40 from rfl), h.kt, if_true, w_fail0 h, asV_n, vF_4, if_neg (show ¬ (5 : Int32) = 0 by decide)]
theorem w_drafts_bad {J : MJ} (h : RefL J) (I : MI) (p b g m v : Int32) (S : RowV) (hb : ¬ b = 0) (x1 x2 x3 : Int32) : M_X10_drafts [mR (some 188), mI x1, mI x2, mI x3] (vF I p b g m v S, J) = some (some (mI (-1)), (vF I p b g m v S, J)) := by
  rw [E_X10_drafts]
  by_cases z : m = 40
  · simp only [h.fi, vF_10, Option.bind_some, if_pos z, h.kt, if_true, w_fail1 h _ _ _ _ _ _ _ _ _ hb, asV_n, vF_4, if_neg hb]
  · simp only [h.fi, vF_10, Option.bind_some, if_neg z, vF_4, if_neg hb]
end
section
/-! The draft of TREES, on both sides. -/
def DI (U : NodV) (S : RowV) (n vol : Nat) : Prop := (U 0 5 = nI n ∧ n ≤ 40 ∧ U 0 6 = nI vol ∧ vol ≤ 3) ∧ (∀ k, k < n → S (4 * k) = U 1 k ∧ S (4 * k + 2) = U 2 k ∧ (U 4 k = 1 ∧ S (4 * k + 1) = 0 ∨ U 4 k = 2 ∧ S (4 * k + 1) = 1)) ∧ (∀ k, k < n → (U 2 k = -1 ∧ U 3 k = 0 ∧ S (4 * k + 3) = 0 ∧ ∃ v, v < vol ∧ U 1 k = nI v ∧ U 5 v = nI k) ∨ ∃ p, p < k ∧ U 2 k = nI p ∧ U 4 p = 2 ∧ U 1 p = U 1 k ∧ Nm (U 3 k) (S (4 * k + 3))) ∧ (∀ v, v < vol → ∃ r, r < n ∧ U 5 v = nI r ∧ U 4 r = 2 ∧ U 2 r = -1 ∧ U 1 r = nI v) ∧ (∀ k j, k < n → j < n → ¬ U 2 k = -1 → U 2 k = U 2 j → U 3 k = U 3 j → k = j) ∧ (0 < vol → U 5 0 = nI 0) ∧ (∀ k, k < n → ∃ v, v < vol ∧ U 1 k = nI v)
theorem DI.kd {U : NodV} {S : RowV} {n vol : Nat} (h : DI U S n vol) {k : Nat} (hk : k < n) : ¬ U 4 k = 0 := by
  rcases (h.2.1 k hk).2.2 with z | z
  · rw [z.1]; decide
  · rw [z.1]; decide
theorem DI.ex {U : NodV} {S : RowV} {n vol : Nat} (h : DI U S n vol) {k : Nat} (hk : k < n) : q_X2_exists U (nI k) = 1 := by
  have n40 := h.1.2.1
  unfold q_X2_exists
  rw [if_neg (nI_pos (by omega)), if_neg (show ¬ (60 : Int32) ≤ nI k from nI_ge (b := 60) (by omega) (by decide)), h.1.1, if_neg (nI_ge hk (by omega)), ix_nI (by omega), if_neg (h.kd hk)]
theorem DI.evN {U : NodV} {S : RowV} {n vol : Nat} (h : DI U S n vol) : evN U = n := by
  have n40 := h.1.2.1
  show min (ix (U 0 5)) 60 = n
  rw [h.1.1, ix_nI (by omega)]
  omega
/-- the roots, the folders: what a world begins with -/
theorem DI.nod {U : NodV} {S : RowV} {n vol : Nat} (h : DI U S n vol) (h1 : 1 ≤ vol) : NodI U n vol := by
  obtain ⟨⟨a1, a2, a3, a4⟩, b, c, d, e, f, g⟩ := h
  refine ⟨a1, by omega, a3, ⟨h1, a4⟩, g, fun k hk => ?_, fun k hk z => ?_, d, fun k hk _ z => ?_, fun k j hk hj _ _ => e k j hk hj, ⟨fun k => k, fun k p hk hp _ z => ?_⟩, f (by omega), fun k hk z => ?_⟩
  · rcases (b k hk).2.2 with y | y
    · exact Or.inr (Or.inl y.1)
    · exact Or.inr (Or.inr y.1)
  · rcases c k hk with ⟨_, _, _, y⟩ | ⟨p, p1, p2, _⟩
    · exact y
    · exact absurd (p2.symm.trans z) (nI_m1 (by omega))
  · rcases c k hk with ⟨y, _⟩ | ⟨p, p1, p2, p3, p4, _⟩
    · exact absurd y z
    · exact ⟨p, by omega, p2, p3, p4⟩
  · rcases c k hk with ⟨y, _⟩ | ⟨q, q1, q2, _⟩
    · exact absurd (z.symm.trans y) (nI_m1 (by omega))
    · have : p = q := (nI_eq (by omega) (by omega)).mp (z.symm.trans q2)
      show p < k
      omega
  · rcases c k hk with ⟨y, _⟩ | ⟨q, q1, q2, _, _, q5⟩
    · exact absurd y z
    · obtain ⟨⟨a, x1, x2, x3⟩, _⟩ := q5.pos
      rw [x1]
      exact fun w => absurd ((nI_eq (b := 0) (by omega) (by decide)).mp w) (by omega)
theorem Nm.nz {x y : Int32} (h : Nm x y) : ¬ x = 0 := by
  obtain ⟨⟨a, x1, x2, x3⟩, _⟩ := h.pos
  rw [x1]
  exact fun w => absurd ((nI_eq (b := 0) (by omega) (by decide)).mp w) (by omega)
/-- one with that name in that folder, on both sides -/
theorem DI.find {U : NodV} {S : RowV} {n vol f : Nat} (h : DI U S n vol) (hf : f < n) {x y : Int32} (nm : Nm x y) : (q_X2_find U (nI f) x = -1 ∧ ¬ Twi S (nI f) y 0 n) ∨ (¬ q_X2_find U (nI f) x = -1 ∧ Twi S (nI f) y 0 n) := by
  have n40 := h.1.2.1
  have key : ∀ k, k < n → ((¬ U 4 k = 0 ∧ U 2 k = nI f ∧ U 3 k = x) ↔ (S (4 * k + 2) = nI f ∧ S (4 * k + 3) = y)) := by
    intro k hk
    rw [(h.2.1 k hk).2.1]
    rcases h.2.2.1 k hk with ⟨z1, _⟩ | ⟨p, _, _, _, _, z5⟩
    · constructor
      · rintro ⟨_, a, _⟩
        exact absurd (a.symm.trans z1) (nI_m1 (by omega))
      · rintro ⟨a, _⟩
        exact absurd (a.symm.trans z1) (nI_m1 (by omega))
    · have := z5.inj nm
      constructor
      · rintro ⟨_, a, b⟩
        exact ⟨a, this.mp b⟩
      · rintro ⟨a, b⟩
        exact ⟨h.kd hk, a, this.mpr b⟩
  unfold q_X2_find
  rw [h.evN]
  cases e : fst? (fun k => decide (¬ U 4 k = 0 ∧ U 2 k = nI f ∧ U 3 k = x)) 0 n with
  | none =>
    refine Or.inl ⟨rfl, ?_⟩
    rintro ⟨j, _, j2, j3⟩
    have := fst_none e j (Nat.zero_le _) (by omega)
    simp only [decide_eq_false_iff_not] at this
    exact this ((key j j2).mpr j3)
  | some j =>
    obtain ⟨_, j2, j3, _⟩ := fst_some e
    simp only [decide_eq_true_eq] at j3
    exact Or.inr ⟨nI_m1 (by omega), j, Nat.zero_le _, by omega, (key j (by omega)).mp j3⟩
/-- rows of a node put -/
theorem put_q {U : NodV} {n : Nat} (h : U 0 5 = nI n) (hn : n < 60) (a b c d : Int32) : gU_X2_put U a b c d = uv (uv (uv (uv (uv U 0 5 (nI (n + 1))) 1 n a) 2 n b) 3 n c) 4 n d ∧ q_X2_put U a b c d = nI n := by
  unfold gU_X2_put q_X2_put
  rw [h, if_neg (nI_pos (by omega)), if_neg (nI_pos (by omega)), if_pos (show nI n < 60 from nI_lt (b := 60) hn (by decide)), if_pos (show nI n < 60 from nI_lt (b := 60) hn (by decide)), ix_nI (by omega), nI_1]
  exact ⟨rfl, rfl⟩
/-- a node more in a folder -/
theorem DI.add {U : NodV} {S : RowV} {n vol f v : Nat} (h : DI U S n vol) (n40 : n < 40) (hf : f < n) (ff : U 4 f = 2) (fv : U 1 f = nI v) {x y : Int32} (nm : Nm x y) (nf : q_X2_find U (nI f) x = -1) : q_X2_addIn U (nI f) x 1 = nI n ∧ DI (gU_X2_addIn U (nI f) x 1) (dS S n (nI v) 0 (nI f) y) (n + 1) vol ∧ (∀ k, k < n → gU_X2_addIn U (nI f) x 1 1 k = U 1 k ∧ gU_X2_addIn U (nI f) x 1 2 k = U 2 k ∧ gU_X2_addIn U (nI f) x 1 4 k = U 4 k) ∧ gU_X2_addIn U (nI f) x 1 1 n = nI v ∧ gU_X2_addIn U (nI f) x 1 2 n = nI f := by
  have isf : q_X2_isFolder U (nI f) = 1 := by
    unfold q_X2_isFolder
    rw [h.ex hf, if_neg i10, ix_nI (by omega), if_pos ff]
  have e1 : q_X2_addIn U (nI f) x 1 = q_X2_put U (U 1 f) (nI f) x 1 := by
    unfold q_X2_addIn
    rw [isf, if_neg i10, ix_nI (by omega)]
  have e2 : gU_X2_addIn U (nI f) x 1 = gU_X2_put U (U 1 f) (nI f) x 1 := by
    unfold gU_X2_addIn
    rw [isf, if_neg i10, ix_nI (by omega)]
  obtain ⟨p1, p2⟩ := put_q h.1.1 (show n < 60 by omega) (U 1 f) (nI f) x 1
  rw [e1, e2, p1, p2, fv]
  have r05 : (uv (uv (uv (uv (uv U 0 5 (nI (n + 1))) 1 n (nI v)) 2 n (nI f)) 3 n x) 4 n 1) 0 5 = nI (n + 1) := by simp [uv]
  have r06 : (uv (uv (uv (uv (uv U 0 5 (nI (n + 1))) 1 n (nI v)) 2 n (nI f)) 3 n x) 4 n 1) 0 6 = U 0 6 := by simp [uv]
  have r1 : ∀ k, (uv (uv (uv (uv (uv U 0 5 (nI (n + 1))) 1 n (nI v)) 2 n (nI f)) 3 n x) 4 n 1) 1 k = if k = n then nI v else U 1 k := fun k => by simp [uv]
  have r2 : ∀ k, (uv (uv (uv (uv (uv U 0 5 (nI (n + 1))) 1 n (nI v)) 2 n (nI f)) 3 n x) 4 n 1) 2 k = if k = n then nI f else U 2 k := fun k => by simp [uv]
  have r3 : ∀ k, (uv (uv (uv (uv (uv U 0 5 (nI (n + 1))) 1 n (nI v)) 2 n (nI f)) 3 n x) 4 n 1) 3 k = if k = n then x else U 3 k := fun k => by simp [uv]
  have r4 : ∀ k, (uv (uv (uv (uv (uv U 0 5 (nI (n + 1))) 1 n (nI v)) 2 n (nI f)) 3 n x) 4 n 1) 4 k = if k = n then 1 else U 4 k := fun k => by simp [uv]
  have r5 : ∀ k, (uv (uv (uv (uv (uv U 0 5 (nI (n + 1))) 1 n (nI v)) 2 n (nI f)) 3 n x) 4 n 1) 5 k = U 5 k := fun k => by simp [uv]
  generalize (uv (uv (uv (uv (uv U 0 5 (nI (n + 1))) 1 n (nI v)) 2 n (nI f)) 3 n x) 4 n 1) = U' at r05 r06 r1 r2 r3 r4 r5
  have o1 : ∀ k, k < n → U' 1 k = U 1 k := fun k hk => by rw [r1, if_neg (by omega)]
  have o2 : ∀ k, k < n → U' 2 k = U 2 k := fun k hk => by rw [r2, if_neg (by omega)]
  have o3 : ∀ k, k < n → U' 3 k = U 3 k := fun k hk => by rw [r3, if_neg (by omega)]
  have o4 : ∀ k, k < n → U' 4 k = U 4 k := fun k hk => by rw [r4, if_neg (by omega)]
  have m1 : U' 1 n = nI v := by rw [r1, if_pos rfl]
  have m2 : U' 2 n = nI f := by rw [r2, if_pos rfl]
  have m3 : U' 3 n = x := by rw [r3, if_pos rfl]
  have m4 : U' 4 n = 1 := by rw [r4, if_pos rfl]
  refine ⟨rfl, ?_, fun k hk => ⟨o1 k hk, o2 k hk, o4 k hk⟩, m1, m2⟩
  obtain ⟨⟨a1, a2, a3, a4⟩, b, c, d, e, ff0, g⟩ := h
  have new : ∀ k, k < n → U 2 k = nI f → ¬ U 3 k = x := fun k hk z w => by
    have h' : DI U S n vol := ⟨⟨a1, a2, a3, a4⟩, b, c, d, e, ff0, g⟩
    unfold q_X2_find at nf
    rw [h'.evN] at nf
    cases q : fst? (fun k => decide (¬ U 4 k = 0 ∧ U 2 k = nI f ∧ U 3 k = x)) 0 n with
    | none =>
      have := fst_none q k (Nat.zero_le _) (by omega)
      simp only [decide_eq_false_iff_not] at this
      exact this ⟨h'.kd hk, z, w⟩
    | some j =>
      rw [q] at nf
      obtain ⟨_, j2, _⟩ := fst_some q
      exact nI_m1 (show j < 2 ^ 31 by omega) nf
  refine ⟨⟨r05, by omega, by rw [r06]; exact a3, a4⟩, fun k hk => ?_, fun k hk => ?_, fun w hw => ?_, fun k j hk hj z1 z2 z3 => ?_, fun z => by rw [r5]; exact ff0 z, fun k hk => ?_⟩
  · rcases Nat.lt_or_ge k n with z | z
    · rw [dS_o _ _ _ _ _ (by omega), dS_o _ _ _ _ _ (by omega), dS_o _ _ _ _ _ (by omega), o1 k z, o2 k z, o4 k z]
      exact b k z
    · have : k = n := by omega
      subst this
      rw [dS_0, dS_1, dS_2, m1, m2, m4]
      exact ⟨rfl, rfl, Or.inl ⟨rfl, rfl⟩⟩
  · rcases Nat.lt_or_ge k n with z | z
    · rw [dS_o _ _ _ _ _ (by omega), o2 k z, o3 k z, o1 k z]
      rcases c k z with ⟨y1, y2, y3, w, y4, y5, y6⟩ | ⟨p, y1, y2, y3, y4, y5⟩
      · exact Or.inl ⟨y1, y2, y3, w, y4, y5, by rw [r5]; exact y6⟩
      · exact Or.inr ⟨p, y1, y2, by rw [o4 p (by omega)]; exact y3, by rw [o1 p (by omega)]; exact y4, y5⟩
    · have : k = n := by omega
      subst this
      exact Or.inr ⟨f, hf, m2, by rw [o4 f hf]; exact ff, by rw [o1 f hf, m1]; exact fv, by rw [m3, dS_3]; exact nm⟩
  · obtain ⟨r, q1, q2, q3, q4, q5⟩ := d w hw
    exact ⟨r, by omega, by rw [r5]; exact q2, by rw [o4 r q1]; exact q3, by rw [o2 r q1]; exact q4, by rw [o1 r q1]; exact q5⟩
  · rcases Nat.lt_or_ge k n with y | y
    · rcases Nat.lt_or_ge j n with w | w
      · rw [o2 k y, o2 j w] at z2
        rw [o3 k y, o3 j w] at z3
        rw [o2 k y] at z1
        exact e k j y w z1 z2 z3
      · have : j = n := by omega
        subst this
        rw [o2 k y, m2] at z2
        rw [o3 k y, m3] at z3
        exact absurd z3 (new k y z2)
    · have : k = n := by omega
      subst this
      rcases Nat.lt_or_ge j k with w | w
      · rw [o2 j w, m2] at z2
        rw [o3 j w, m3] at z3
        exact absurd z3.symm (new j w z2.symm)
      · omega
  · rcases Nat.lt_or_ge k n with z | z
    · rw [o1 k z]; exact g k z
    · have : k = n := by omega
      subst this
      rw [m1, ← fv]
      exact g f hf
/-- a file becomes a folder -/
theorem DI.fold {U : NodV} {S : RowV} {n vol l : Nat} (h : DI U S n vol) (hl : l < n) : DI (gU_X2_becomeFolder U (nI l)) (sD S (4 * l + 1) 1) n vol ∧ (∀ k, gU_X2_becomeFolder U (nI l) 1 k = U 1 k ∧ gU_X2_becomeFolder U (nI l) 2 k = U 2 k) ∧ gU_X2_becomeFolder U (nI l) 4 l = 2 := by
  have n40 := h.1.2.1
  have e : gU_X2_becomeFolder U (nI l) = uv U 4 l 2 := by
    unfold gU_X2_becomeFolder
    rw [h.ex hl, if_neg i10, ix_nI (by omega)]
  rw [e]
  have r : ∀ q : Fin 6, q ≠ 4 → ∀ k, uv U 4 l 2 q k = U q k := fun q hq k => by rw [uv_k _ _ _ _ _ hq]
  have r4 : ∀ k, uv U 4 l 2 4 k = if k = l then 2 else U 4 k := fun k => uv_at _ _ _ _ _
  have s4 : ∀ k, U 4 k = 2 → uv U 4 l 2 4 k = 2 := fun k z => by
    rw [r4]
    split
    · rfl
    · exact z
  refine ⟨?_, fun k => ⟨r 1 (by decide) k, r 2 (by decide) k⟩, by rw [r4, if_pos rfl]⟩
  obtain ⟨⟨a1, a2, a3, a4⟩, b, c, d, e, f, g⟩ := h
  refine ⟨⟨by rw [r 0 (by decide)]; exact a1, a2, by rw [r 0 (by decide)]; exact a3, a4⟩, fun k hk => ?_, fun k hk => ?_, fun w hw => ?_, fun k j hk hj => ?_, fun z => by rw [r 5 (by decide)]; exact f z, fun k hk => by rw [r 1 (by decide)]; exact g k hk⟩
  · rw [sD_n _ _ (by omega), sD_n _ _ (by omega), r 1 (by decide), r 2 (by decide), r4]
    refine ⟨(b k hk).1, (b k hk).2.1, ?_⟩
    by_cases z : k = l
    · rw [if_pos z, z, sD_s]
      exact Or.inr ⟨rfl, rfl⟩
    · rw [if_neg z, sD_n _ _ (by omega)]
      exact (b k hk).2.2
  · rw [r 1 (by decide), r 2 (by decide), r 3 (by decide), sD_n _ _ (by omega)]
    rcases c k hk with ⟨y1, y2, y3, w, y4, y5, y6⟩ | ⟨p, y1, y2, y3, y4, y5⟩
    · exact Or.inl ⟨y1, y2, y3, w, y4, y5, by rw [r 5 (by decide)]; exact y6⟩
    · exact Or.inr ⟨p, y1, y2, s4 p y3, by rw [r 1 (by decide)]; exact y4, y5⟩
  · obtain ⟨q, q1, q2, q3, q4, q5⟩ := d w hw
    exact ⟨q, q1, by rw [r 5 (by decide)]; exact q2, s4 q q3, by rw [r 2 (by decide)]; exact q4, by rw [r 1 (by decide)]; exact q5⟩
  · rw [r 2 (by decide), r 2 (by decide), r 3 (by decide), r 3 (by decide)]
    exact e k j hk hj
/-- a VOLUME more -/
theorem DI.vol {U : NodV} {S : RowV} {n v : Nat} (h : DI U S n v) (n40 : n < 40) (v3 : v < 3) : q_X2_addVolume U = 1 ∧ DI (gU_X2_addVolume U) (dS S n (nI v) 1 (-1) 0) (n + 1) (v + 1) ∧ q_X2_rootOf (gU_X2_addVolume U) ((gU_X2_addVolume U) 0 6 - 1) = nI n ∧ gU_X2_addVolume U 4 n = 2 ∧ gU_X2_addVolume U 1 n = nI v := by
  obtain ⟨⟨a1, a2, a3, a4⟩, b, c, d, e, f, g⟩ := h
  have c0 : ¬ U 0 6 < 0 := by rw [a3]; exact nI_pos (by omega)
  have c3 : ¬ (3 : Int32) ≤ U 0 6 := by rw [a3]; exact nI_ge (b := 3) v3 (by decide)
  have c60 : U 0 5 < 60 := by rw [a1]; exact nI_lt (b := 60) (by omega) (by decide)
  have e0 : q_X2_addVolume U = 1 := by
    unfold q_X2_addVolume
    rw [if_neg c0, if_neg c3, if_pos c60]
  have e1 : gU_X2_addVolume U = uv (gU_X2_put (uv U 0 6 (nI (v + 1))) (nI v) (-1) 0 2) 5 v (q_X2_put (uv U 0 6 (nI (v + 1))) (nI v) (-1) 0 2) := by
    unfold gU_X2_addVolume
    rw [if_neg c0, if_neg c3, if_pos c60, a3, nI_1, ix_nI (by omega)]
  obtain ⟨p1, p2⟩ := put_q (U := uv U 0 6 (nI (v + 1))) (n := n) (by simp [uv]; exact a1) (by omega) (nI v) (-1) 0 2
  rw [p1, p2] at e1
  rw [e1]
  have r05 : (uv (uv (uv (uv (uv (uv (uv U 0 6 (nI (v + 1))) 0 5 (nI (n + 1))) 1 n (nI v)) 2 n (-1)) 3 n 0) 4 n 2) 5 v (nI n)) 0 5 = nI (n + 1) := by simp [uv]
  have r06 : (uv (uv (uv (uv (uv (uv (uv U 0 6 (nI (v + 1))) 0 5 (nI (n + 1))) 1 n (nI v)) 2 n (-1)) 3 n 0) 4 n 2) 5 v (nI n)) 0 6 = nI (v + 1) := by simp [uv]
  have r1 : ∀ k, (uv (uv (uv (uv (uv (uv (uv U 0 6 (nI (v + 1))) 0 5 (nI (n + 1))) 1 n (nI v)) 2 n (-1)) 3 n 0) 4 n 2) 5 v (nI n)) 1 k = if k = n then nI v else U 1 k := fun k => by simp [uv]
  have r2 : ∀ k, (uv (uv (uv (uv (uv (uv (uv U 0 6 (nI (v + 1))) 0 5 (nI (n + 1))) 1 n (nI v)) 2 n (-1)) 3 n 0) 4 n 2) 5 v (nI n)) 2 k = if k = n then -1 else U 2 k := fun k => by simp [uv]
  have r3 : ∀ k, (uv (uv (uv (uv (uv (uv (uv U 0 6 (nI (v + 1))) 0 5 (nI (n + 1))) 1 n (nI v)) 2 n (-1)) 3 n 0) 4 n 2) 5 v (nI n)) 3 k = if k = n then 0 else U 3 k := fun k => by simp [uv]
  have r4 : ∀ k, (uv (uv (uv (uv (uv (uv (uv U 0 6 (nI (v + 1))) 0 5 (nI (n + 1))) 1 n (nI v)) 2 n (-1)) 3 n 0) 4 n 2) 5 v (nI n)) 4 k = if k = n then 2 else U 4 k := fun k => by simp [uv]
  have r5 : ∀ k, (uv (uv (uv (uv (uv (uv (uv U 0 6 (nI (v + 1))) 0 5 (nI (n + 1))) 1 n (nI v)) 2 n (-1)) 3 n 0) 4 n 2) 5 v (nI n)) 5 k = if k = v then nI n else U 5 k := fun k => by simp [uv]
  generalize (uv (uv (uv (uv (uv (uv (uv U 0 6 (nI (v + 1))) 0 5 (nI (n + 1))) 1 n (nI v)) 2 n (-1)) 3 n 0) 4 n 2) 5 v (nI n)) = U' at r05 r06 r1 r2 r3 r4 r5
  have o1 : ∀ k, k < n → U' 1 k = U 1 k := fun k hk => by rw [r1, if_neg (by omega)]
  have o2 : ∀ k, k < n → U' 2 k = U 2 k := fun k hk => by rw [r2, if_neg (by omega)]
  have o3 : ∀ k, k < n → U' 3 k = U 3 k := fun k hk => by rw [r3, if_neg (by omega)]
  have o4 : ∀ k, k < n → U' 4 k = U 4 k := fun k hk => by rw [r4, if_neg (by omega)]
  have m1 : U' 1 n = nI v := by rw [r1, if_pos rfl]
  have m2 : U' 2 n = -1 := by rw [r2, if_pos rfl]
  have m3 : U' 3 n = 0 := by rw [r3, if_pos rfl]
  have m4 : U' 4 n = 2 := by rw [r4, if_pos rfl]
  have m5 : U' 5 v = nI n := by rw [r5, if_pos rfl]
  refine ⟨e0, ?_, ?_, m4, m1⟩
  · refine ⟨⟨r05, by omega, r06, by omega⟩, fun k hk => ?_, fun k hk => ?_, fun w hw => ?_, fun k j hk hj z1 z2 z3 => ?_, fun z => ?_, fun k hk => ?_⟩
    · rcases Nat.lt_or_ge k n with z | z
      · rw [dS_o _ _ _ _ _ (by omega), dS_o _ _ _ _ _ (by omega), dS_o _ _ _ _ _ (by omega), o1 k z, o2 k z, o4 k z]
        exact b k z
      · have : k = n := by omega
        subst this
        rw [dS_0, dS_1, dS_2, m1, m2, m4]
        exact ⟨rfl, rfl, Or.inr ⟨rfl, rfl⟩⟩
    · rcases Nat.lt_or_ge k n with z | z
      · rw [dS_o _ _ _ _ _ (by omega), o2 k z, o3 k z, o1 k z]
        rcases c k z with ⟨y1, y2, y3, w, y4, y5, y6⟩ | ⟨p, y1, y2, y3, y4, y5⟩
        · exact Or.inl ⟨y1, y2, y3, w, by omega, y5, by rw [r5, if_neg (by omega)]; exact y6⟩
        · exact Or.inr ⟨p, y1, y2, by rw [o4 p (by omega)]; exact y3, by rw [o1 p (by omega)]; exact y4, y5⟩
      · have : k = n := by omega
        subst this
        exact Or.inl ⟨m2, m3, dS_3 _ _ _ _ _ _, v, by omega, m1, m5⟩
    · rcases Nat.lt_or_ge w v with z | z
      · obtain ⟨r, q1, q2, q3, q4, q5⟩ := d w z
        exact ⟨r, by omega, by rw [r5, if_neg (by omega)]; exact q2, by rw [o4 r q1]; exact q3, by rw [o2 r q1]; exact q4, by rw [o1 r q1]; exact q5⟩
      · have : w = v := by omega
        subst this
        exact ⟨n, by omega, m5, m4, m2, m1⟩
    · rcases Nat.lt_or_ge k n with y | y
      · rcases Nat.lt_or_ge j n with w | w
        · rw [o2 k y, o2 j w] at z2
          rw [o3 k y, o3 j w] at z3
          rw [o2 k y] at z1
          exact e k j y w z1 z2 z3
        · have : j = n := by omega
          subst this
          rw [m2] at z2
          exact absurd z2 z1
      · have : k = n := by omega
        subst this
        exact absurd m2 z1
    · rw [r5]
      by_cases w : 0 = v
      · rw [if_pos w]
        have : n = 0 := by
          rcases Nat.eq_zero_or_pos n with y | y
          · exact y
          · obtain ⟨u, u1, _⟩ := g 0 y
            omega
        rw [this]
      · rw [if_neg w]; exact f (by omega)
    · rcases Nat.lt_or_ge k n with z | z
      · rw [o1 k z]
        obtain ⟨u, u1, u2⟩ := g k z
        exact ⟨u, by omega, u2⟩
      · have : k = n := by omega
        subst this
        exact ⟨v, by omega, m1⟩
  · rw [r06, nI_p]
    unfold q_X2_rootOf q_X2_hasVolume
    rw [if_neg (nI_pos (by omega)), if_neg (show ¬ (3 : Int32) ≤ nI v from nI_ge (b := 3) v3 (by decide)), r06, if_neg (nI_ge (by omega) (by omega)), if_neg i10, ix_nI (by omega), m5]
/-- how often one can go up -/
def Ch (U : NodV) : Nat → Nat → Prop
  | 0, _ => True
  | d + 1, f => ∃ p, p < f ∧ U 2 f = nI p ∧ Ch U d p
theorem Ch.cg {U U' : NodV} {n : Nat} (h : ∀ k, k < n → U' 2 k = U 2 k) : ∀ (d f : Nat), f < n → Ch U d f → Ch U' d f
  | 0, _, _, _ => trivial
  | d + 1, f, hf, ⟨p, p1, p2, p3⟩ => ⟨p, p1, by rw [h f hf]; exact p2, Ch.cg h d p (by omega) p3⟩
end
section
/-! Turns of the two readers. -/
noncomputable def V13 (x2 x3 x4 : Int32) (s : MH) : Option MO := Ev T_X10_volumeTold 13 [some (mR (some 188)), none, some (mI x2), some (mI x3), some (mI x4), none, none, none] [] s
theorem V13_bad {J : MJ} (h : RefL J) (I : MI) (p b g m v : Int32) (S : RowV) (hb : ¬ b = 0) (x2 x3 x4 : Int32) : V13 x2 x3 x4 (vF I p b g m v S, J) = some (none, (vF I p b g m v S, J)) := by
  unfold V13
  rw [E_X10_volumeTold_13]
  simp only [h.fi, vF_4, Option.bind_some, if_neg hb]
theorem V13_no {I : MI} {Q : RouV} {T : Nat} (t : RTap I Q T) {J : MJ} (h : RefL J) (g m v : Int32) (S : RowV) {p s : Nat} (hs : Sk Q T p s) (x2 x3 x4 : Int32) (hl : q_X9_isLetter (q_X5_at Q (nI s)) = 0) (h1 : q_X5_at Q (nI s) = 123 → x4 = -1) (h2 : q_X5_at Q (nI s) = 125 → x3 ≤ 0) (h3 : q_X5_at Q (nI s) = 59 → ¬ x3 = 0) : V13 x2 x3 x4 (vF I (nI p) 0 g m v S, J) = some (none, (vF I (nI s) 1 (nI s) m v S, J)) := by
  have bad := V13_bad h I (nI s) 1 (nI s) m v S i10 x2 x3 x4
  unfold V13 at bad ⊢
  rw [E_X10_volumeTold_13]
  simp only [h.fi, vF_4, Option.bind_some, if_true, h.kt, w_look0 t h 0 g m v S hs, asI_I, vF_2, w_isLetter, hl, w_fail0 h, asV_n]
  generalize q_X5_at Q (nI s) = c at h1 h2 h3
  by_cases c1 : c = 123
  · rw [if_pos c1, if_pos (h1 c1), if_neg (by rw [c1]; decide), if_neg (by rw [c1]; decide)]
    exact bad
  · rw [if_neg c1]
    by_cases c2 : c = 125
    · rw [if_pos c2, if_pos (h2 c2), if_neg (by rw [c2]; decide)]
      exact bad
    · rw [if_neg c2]
      by_cases c3 : c = 59
      · rw [if_pos c3, if_neg (h3 c3)]
        exact bad
      · rw [if_neg c3]
        exact bad
theorem nI_dec {d : Nat} (h : 0 < d) : nI d + (-1) = nI (d - 1) := by
  have e : d = (d - 1) + 1 := by omega
  rw [e, ← nI_1, Int32.add_assoc]
  show nI (d - 1) + 0 = _
  rw [Int32.add_zero]
  congr 1
theorem V13_open {I : MI} {Q : RouV} {T : Nat} (t : RTap I Q T) {J : MJ} (h : RefL J) (g m v : Int32) (S : RowV) {p s l d : Nat} (hs : Sk Q T p s) (x2 : Int32) (hc : q_X5_at Q (nI s) = 123) (hl : l < 40) (hd : d < 8) : V13 x2 (nI d) (nI l) (vF I (nI p) 0 g m v S, J) = V13 (nI l) (nI (d + 1)) (-1) (vF I (nI (s + 1)) 0 g m v (sD S (4 * l + 1) 1), J) := by
  have st1 : ∀ y, st (vF I (nI s) 0 g m v S, J) 11 191 (4 * nI l + 1) y = some (vF I (nI s) 0 g m v (sD S (4 * l + 1) y), J) := fun y => stS h I _ 0 g m v S (by omega) (i4_1 l) y
  unfold V13
  rw [E_X10_volumeTold_13]
  simp only [h.fi, vF_4, Option.bind_some, if_true, h.kt, w_look0 t h 0 g m v S hs, asI_I, vF_2, w_isLetter, hc, show q_X9_isLetter 123 = 0 by decide]
  rw [if_neg (nI_m1 (show l < 2 ^ 31 by omega)), if_neg (show ¬ nI d = 8 from fun z => absurd ((nI_eq (a := d) (b := 8) (by omega) (by decide)).mp z) (by omega))]
  simp only [h.f9, Option.bind_some, st1, h.fi, vF_2, h.wi, vF_s2, nI_1]
theorem V13_open8 {I : MI} {Q : RouV} {T : Nat} (t : RTap I Q T) {J : MJ} (h : RefL J) (g m v : Int32) (S : RowV) {p s l : Nat} (hs : Sk Q T p s) (x2 : Int32) (hc : q_X5_at Q (nI s) = 123) (hl : l < 40) : ∃ S', V13 x2 (nI 8) (nI l) (vF I (nI p) 0 g m v S, J) = some (none, (vF I (nI (s + 1)) 5 (nI s) m v S', J)) := by
  have st1 : ∀ y, st (vF I (nI s) 5 (nI s) m v S, J) 11 191 (4 * nI l + 1) y = some (vF I (nI s) 5 (nI s) m v (sD S (4 * l + 1) y), J) := fun y => stS h I _ 5 _ m v S (by omega) (i4_1 l) y
  refine ⟨sD S (4 * l + 1) 1, ?_⟩
  have bad := V13_bad h I (nI (s + 1)) 5 (nI s) m v (sD S (4 * l + 1) 1) (by decide) (nI l) (nI 8 + 1) (-1)
  unfold V13 at bad ⊢
  rw [E_X10_volumeTold_13]
  simp only [h.fi, vF_4, Option.bind_some, if_true, h.kt, w_look0 t h 0 g m v S hs, asI_I, vF_2, w_isLetter, hc, show q_X9_isLetter 123 = 0 by decide]
  rw [if_neg (nI_m1 (show l < 2 ^ 31 by omega)), if_pos (show nI 8 = 8 from rfl)]
  simp only [w_fail0 h, asV_n, h.f9, Option.bind_some, st1, h.fi, vF_2, h.wi, vF_s2, nI_1]
  exact bad
theorem V13_close {I : MI} {Q : RouV} {T : Nat} (t : RTap I Q T) {J : MJ} (h : RefL J) (g m v : Int32) (S : RowV) {p s f d : Nat} (hs : Sk Q T p s) (x4 : Int32) (hc : q_X5_at Q (nI s) = 125) (hf : f < 40) (hd : 0 < d) (hd8 : d < 1000) : V13 (nI f) (nI d) x4 (vF I (nI p) 0 g m v S, J) = V13 (S (4 * f + 2)) (nI (d - 1)) (-1) (vF I (nI (s + 1)) 0 g m v S, J) := by
  unfold V13
  rw [E_X10_volumeTold_13]
  simp only [h.fi, vF_4, Option.bind_some, if_true, h.kt, w_look0 t h 0 g m v S hs, asI_I, vF_2, w_isLetter, hc, show q_X9_isLetter 125 = 0 by decide]
  rw [if_neg (show ¬ (125 : Int32) = 123 by decide), if_neg (show ¬ nI d ≤ 0 from nI_ge (a := 0) hd (by omega))]
  simp only [w_drafted h I (nI s) 0 g m v S (show (2 : Int32) = nI 2 from rfl) (show 4 * f + 2 < 240 by omega), Option.bind_some, asI_I, h.fi, vF_2, h.wi, vF_s2, nI_1, nI_dec hd]
theorem V13_semi {I : MI} {Q : RouV} {T : Nat} (t : RTap I Q T) {J : MJ} (h : RefL J) (g m v : Int32) (S : RowV) {p s : Nat} (hs : Sk Q T p s) (x2 x4 : Int32) (hc : q_X5_at Q (nI s) = 59) : V13 x2 (nI 0) x4 (vF I (nI p) 0 g m v S, J) = some (none, (vF I (nI (s + 1)) 0 g m (v + 1) S, J)) := by
  unfold V13
  rw [E_X10_volumeTold_13]
  simp only [h.fi, vF_4, Option.bind_some, if_true, h.kt, w_look0 t h 0 g m v S hs, asI_I, vF_2, w_isLetter, hc, show q_X9_isLetter 59 = 0 by decide]
  rw [if_neg (show ¬ (59 : Int32) = 123 by decide), if_neg (show ¬ (59 : Int32) = 125 by decide), if_pos (show nI 0 = 0 from rfl)]
  simp only [h.fi, vF_2, vF_12, h.wi, vF_s2, vF_s12, nI_1, Option.bind_some]
theorem V13_full {I : MI} {Q : RouV} {T : Nat} (t : RTap I Q T) {J : MJ} (h : RefL J) (g v : Int32) (S : RowV) {p s : Nat} (hs : Sk Q T p s) (x2 x3 x4 : Int32) (hl : q_X9_isLetter (q_X5_at Q (nI s)) = 1) : V13 x2 x3 x4 (vF I (nI p) 0 g (nI 40) v S, J) = some (none, (vF I (nI s) 5 (nI s) (nI 40) v S, J)) := by
  have bad := V13_bad h I (nI s) 5 (nI s) (nI 40) v S (by decide) x2 x3 (-1)
  unfold V13 at bad ⊢
  rw [E_X10_volumeTold_13]
  simp only [h.fi, vF_4, vF_10, Option.bind_some, if_true, h.kt, w_look0 t h 0 g (nI 40) v S hs, asI_I, vF_2, w_isLetter, hl, if_neg i10]
  rw [if_pos (show nI 40 = 40 from rfl)]
  simp only [w_fail0 h, asV_n, Option.bind_some, h.kt, if_true, w_name1 h _ _ 5 _ _ _ _ (by decide), asI_I, h.fi, vF_4, if_neg (show ¬ (5 : Int32) = 0 by decide)]
  exact bad
theorem V13_long {I : MI} {Q : RouV} {T : Nat} (t : RTap I Q T) {J : MJ} (h : RefL J) (g v : Int32) (S : RowV) {p s n : Nat} (hs : Sk Q T p s) (n40 : n < 40) (x2 x3 x4 : Int32) (hn : s + 5 ≤ T) (hl : ∀ j, j < 5 → Lt (Q 1 (s + j))) : V13 x2 x3 x4 (vF I (nI p) 0 g (nI n) v S, J) = some (none, (vF I (nI (s + 5)) 1 (nI (s + 4)) (nI n) v S, J)) := by
  obtain ⟨y, e⟩ := w_name5 t h g (nI n) v S hn hl
  have l0 : q_X9_isLetter (q_X5_at Q (nI s)) = 1 := by
    rw [t.1.in (show s < T by omega)]
    exact lt_q (hl 0 (by omega))
  have bad := V13_bad h I (nI (s + 5)) 1 (nI (s + 4)) (nI n) v S i10 x2 x3 (-1)
  unfold V13 at bad ⊢
  rw [E_X10_volumeTold_13]
  simp only [h.fi, vF_4, vF_10, Option.bind_some, if_true, h.kt, w_look0 t h 0 g (nI n) v S hs, asI_I, vF_2, w_isLetter, l0, if_neg i10, if_neg (n40I n40), e]
  exact bad
/-- a name of at most four letters: what is drafted -/
theorem V13_name {I : MI} {Q : RouV} {T : Nat} (t : RTap I Q T) {J : MJ} (h : RefL J) (g v : Int32) (S : RowV) {p s n L : Nat} (hs : Sk Q T p s) (n40 : n < 40) (x2 x3 x4 : Int32) (h1 : 1 ≤ L) (h4 : L ≤ 4) (hn : s + L ≤ T) (hl : ∀ j, j < L → Lt (Q 1 (s + j))) (he : s + L = T ∨ ¬ Lt (Q 1 (s + L))) : V13 x2 x3 x4 (vF I (nI p) 0 g (nI n) v S, J) = (M_X10_drafts [mR (some 188), mI x2, mI (rnm (Q 1) s L), mI (nI s)] (vF I (nI (s + L)) 0 g (nI n) v S, J)).bind (fun u60 => (asI u60.1).bind fun y61 => V13 x2 x3 y61 u60.2) := by
  have l0 : q_X9_isLetter (q_X5_at Q (nI s)) = 1 := by
    rw [t.1.in (show s < T by omega)]
    exact lt_q (hl 0 (by omega))
  unfold V13
  rw [E_X10_volumeTold_13]
  simp only [h.fi, vF_4, vF_10, Option.bind_some, if_true, h.kt, w_look0 t h 0 g (nI n) v S hs, asI_I, vF_2, w_isLetter, l0, if_neg i10, if_neg (n40I n40), w_name t h g (nI n) v S hn h4 hl he]
/-! The class. -/
abbrev RTl (Q : RouV) (nn k : Nat) (x2 : Int32) (E : OneV) (U : NodV) : Int32 × OneV × NodV := lp_X3_readTrees_41 Q nn k x2 E U
theorem lp_0 (Q : RouV) (nn k : Nat) (E : OneV) (U : NodV) : RTl Q nn k 0 E U = if (E 0 1) = 0 then (1, E, U) else (0, E, U) := by
  cases nn with
  | zero => exact if_pos rfl
  | succ nn => exact if_pos rfl
theorem lp_in {Q : RouV} {T : Nat} (t : Tap Q T) {p s : Nat} (hs : Sk Q T p s) (nn k : Nat) (E : OneV) (U : NodV) (e3 : E 0 3 = nI p) (e6 : ¬ bz (E 0 6) = 0) : RTl Q (nn + 1) k 1 E U = RTl Q nn (k + 1) (q_X3_readInside (uv E 0 3 (nI s)) Q U (q_X5_at Q (nI s))) (gE_X3_readInside (uv E 0 3 (nI s)) Q U (q_X5_at Q (nI s))) (gU_X3_readInside (uv E 0 3 (nI s)) Q U (q_X5_at Q (nI s))) := by
  have sk := skip_q t hs e3
  have e : RTl Q (nn + 1) k 1 E U = (if (bz ((gE_X3_skipBlanks E Q) 0 6)) = 0 then RTl Q nn (k + 1) (q_X3_readOutside (gE_X3_skipBlanks E Q) U (q_X5_at Q ((gE_X3_skipBlanks E Q) 0 3))) (gE_X3_readOutside (gE_X3_skipBlanks E Q) U (q_X5_at Q ((gE_X3_skipBlanks E Q) 0 3))) (gU_X3_readOutside (gE_X3_skipBlanks E Q) U (q_X5_at Q ((gE_X3_skipBlanks E Q) 0 3))) else RTl Q nn (k + 1) (q_X3_readInside (gE_X3_skipBlanks E Q) Q U (q_X5_at Q ((gE_X3_skipBlanks E Q) 0 3))) (gE_X3_readInside (gE_X3_skipBlanks E Q) Q U (q_X5_at Q ((gE_X3_skipBlanks E Q) 0 3))) (gU_X3_readInside (gE_X3_skipBlanks E Q) Q U (q_X5_at Q ((gE_X3_skipBlanks E Q) 0 3)))) := if_neg i10
  rw [e, sk, uv_n _ _ _ _ _ _ (by decide), if_neg e6, uv_s]
theorem lp_out {Q : RouV} {T : Nat} (t : Tap Q T) {p s : Nat} (hs : Sk Q T p s) (nn k : Nat) (E : OneV) (U : NodV) (e3 : E 0 3 = nI p) (e6 : bz (E 0 6) = 0) : RTl Q (nn + 1) k 1 E U = RTl Q nn (k + 1) (q_X3_readOutside (uv E 0 3 (nI s)) U (q_X5_at Q (nI s))) (gE_X3_readOutside (uv E 0 3 (nI s)) U (q_X5_at Q (nI s))) (gU_X3_readOutside (uv E 0 3 (nI s)) U (q_X5_at Q (nI s))) := by
  have sk := skip_q t hs e3
  have e : RTl Q (nn + 1) k 1 E U = (if (bz ((gE_X3_skipBlanks E Q) 0 6)) = 0 then RTl Q nn (k + 1) (q_X3_readOutside (gE_X3_skipBlanks E Q) U (q_X5_at Q ((gE_X3_skipBlanks E Q) 0 3))) (gE_X3_readOutside (gE_X3_skipBlanks E Q) U (q_X5_at Q ((gE_X3_skipBlanks E Q) 0 3))) (gU_X3_readOutside (gE_X3_skipBlanks E Q) U (q_X5_at Q ((gE_X3_skipBlanks E Q) 0 3))) else RTl Q nn (k + 1) (q_X3_readInside (gE_X3_skipBlanks E Q) Q U (q_X5_at Q ((gE_X3_skipBlanks E Q) 0 3))) (gE_X3_readInside (gE_X3_skipBlanks E Q) Q U (q_X5_at Q ((gE_X3_skipBlanks E Q) 0 3))) (gU_X3_readInside (gE_X3_skipBlanks E Q) Q U (q_X5_at Q ((gE_X3_skipBlanks E Q) 0 3)))) := if_neg i10
  rw [e, sk, uv_n _ _ _ _ _ _ (by decide), if_pos e6, uv_s]
theorem lp_fail (Q : RouV) (nn k : Nat) (E : OneV) (U : NodV) (x y : Int32) (hx : ¬ x = 0) : (RTl Q nn k 0 (gE_X3_fail E x y) U).1 = 0 := by
  have e : gE_X3_fail E x y 0 1 = x := by
    unfold gE_X3_fail
    simp [uv]
  rw [lp_0, e, if_neg hx]
/-- inside, a wrong byte -/
theorem in_no {E : OneV} {Q : RouV} {U : NodV} {c : Int32} (hl : q_X9_isLetter c = 0) (h2 : c = 125 → E 0 4 ≤ 0) (h3 : c = 59 → ¬ E 0 4 = 0) : q_X3_readInside E Q U c = 0 ∧ gE_X3_readInside E Q U c = gE_X3_fail E 1 (E 0 3) := by
  unfold q_X3_readInside gE_X3_readInside
  rw [hl]
  by_cases c3 : c = 59
  · have c2 : ¬ c = 125 := by rw [c3]; decide
    simp only [if_pos c3, if_neg (h3 c3), if_neg c2, if_true]
    exact ⟨rfl, trivial⟩
  · simp only [if_neg c3]
    by_cases c2 : c = 125
    · simp only [if_pos c2, if_pos (h2 c2), if_true]
      exact ⟨rfl, trivial⟩
    · simp only [if_neg c2, if_true]
      exact ⟨rfl, trivial⟩
theorem in_semi {E : OneV} {Q : RouV} {U : NodV} (h : E 0 4 = 0) : q_X3_readInside E Q U 59 = 1 ∧ gE_X3_readInside E Q U 59 = uv (uv E 0 6 0) 0 3 ((E 0 3) + 1) ∧ gU_X3_readInside E Q U 59 = U := by
  unfold q_X3_readInside gE_X3_readInside gU_X3_readInside
  simp only [if_true, if_pos h]
  exact ⟨trivial, trivial, trivial⟩
theorem in_close {E : OneV} {Q : RouV} {U : NodV} (h : ¬ E 0 4 ≤ 0) : q_X3_readInside E Q U 125 = 1 ∧ gE_X3_readInside E Q U 125 = uv (uv (uv E 0 5 (q_X2_parentOf U (E 0 5))) 0 4 ((E 0 4) - 1)) 0 3 ((E 0 3) + 1) ∧ gU_X3_readInside E Q U 125 = U := by
  unfold q_X3_readInside gE_X3_readInside gU_X3_readInside
  simp only [if_neg (show ¬ (125 : Int32) = 59 by decide), if_true, if_neg h]
  exact ⟨trivial, trivial, trivial⟩
theorem in_item {E : OneV} {Q : RouV} {U : NodV} {c : Int32} (hl : q_X9_isLetter c = 1) : q_X3_readInside E Q U c = (o_X3_readItem E Q U).1 ∧ gE_X3_readInside E Q U c = (o_X3_readItem E Q U).2.1 ∧ gU_X3_readInside E Q U c = (o_X3_readItem E Q U).2.2 := by
  have c3 : ¬ c = 59 := fun z => by rw [z] at hl; exact absurd hl (by decide)
  have c2 : ¬ c = 125 := fun z => by rw [z] at hl; exact absurd hl (by decide)
  unfold q_X3_readInside gE_X3_readInside gU_X3_readInside
  rw [hl]
  simp only [if_neg c3, if_neg c2, if_neg i10]
  exact ⟨rfl, rfl, rfl⟩
/-- letters of an item -/
theorem item_go {Q : RouV} {T : Nat} (t : Tap Q T) (U : NodV) (x2 : Int32) {s L : Nat} (hn : s + L ≤ T) (hl : ∀ j, j < L → Lt (Q 1 (s + j))) (he : s + L = T ∨ ¬ Lt (Q 1 (s + L))) : ∀ (f j : Nat) (E : OneV), j ≤ L → L - j ≤ f → E 0 3 = nI (s + j) → lp_X3_readItem Q U x2 f E = e_X3_readItem (uv E 0 3 (nI (s + L))) Q U x2 := by
  have T4 := t.1
  have id : ∀ (E : OneV), E 0 3 = nI (s + L) → uv E 0 3 (nI (s + L)) = E := fun E e => by
    funext a j
    unfold uv
    split
    · rename_i y; rw [y.1, y.2, e]
    · rfl
  have nl : q_X9_isLetter (q_X5_at Q (nI (s + L))) = 0 := by
    by_cases z : s + L = T
    · rw [t.out (by omega) (by omega)]; decide
    · rcases t.lt (show s + L < T by omega) with ⟨_, q2⟩ | ⟨q1, _⟩
      · exact absurd q2 (he.resolve_left z)
      · rw [t.in (by omega)]; exact q1
  intro f
  induction f with
  | zero =>
    intro j E j1 j2 e
    have : j = L := by omega
    subst this
    rw [id E e]
    rfl
  | succ f ih =>
    intro j E j1 j2 e
    have st : lp_X3_readItem Q U x2 (f + 1) E = if (q_X9_isLetter (q_X5_at Q (E 0 3))) = 0 then e_X3_readItem E Q U x2 else lp_X3_readItem Q U x2 f (uv E 0 3 ((E 0 3) + 1)) := rfl
    rw [st, e]
    rcases Nat.eq_or_lt_of_le j1 with z | z
    · subst z
      rw [if_pos nl, id E e]
    · rw [t.in (show s + j < T by omega), lt_q (hl j z), if_neg i10, nI_1, ih (j + 1) (uv E 0 3 (nI (s + j + 1))) (by omega) (by omega) (uv_s _ _ _ _)]
      congr 1
      funext a b
      unfold uv
      split <;> simp_all
theorem item_long {Q : RouV} {T : Nat} (t : Tap Q T) (U : NodV) (x2 : Int32) {s : Nat} (hn : s + 5 ≤ T) (hl : ∀ j, j < 5 → Lt (Q 1 (s + j))) : ∀ (f j : Nat) (E : OneV), j + f = 4 → E 0 3 = nI (s + j) → ∃ E', lp_X3_readItem Q U x2 f E = (0, gE_X3_fail E' 1 (E' 0 3), U) := by
  have T4 := t.1
  intro f
  induction f with
  | zero =>
    intro j E j1 e
    have : j = 4 := by omega
    subst this
    refine ⟨E, ?_⟩
    show e_X3_readItem E Q U x2 = _
    unfold e_X3_readItem
    rw [e, t.in (show s + 4 < T by omega), lt_q (hl 4 (by omega)), if_neg i10]
    rfl
  | succ f ih =>
    intro j E j1 e
    have st : lp_X3_readItem Q U x2 (f + 1) E = if (q_X9_isLetter (q_X5_at Q (E 0 3))) = 0 then e_X3_readItem E Q U x2 else lp_X3_readItem Q U x2 f (uv E 0 3 ((E 0 3) + 1)) := rfl
    rw [st, e, t.in (show s + j < T by omega), lt_q (hl j (by omega)), if_neg i10, nI_1]
    exact ih (j + 1) _ (by omega) (uv_s _ _ _ _)
end
section
/-! A VOLUME read, on both sides. -/
def EI (E : OneV) (p d f : Nat) : Prop := E 0 1 = 0 ∧ E 0 3 = nI p ∧ E 0 4 = nI d ∧ E 0 5 = nI f ∧ ¬ bz (E 0 6) = 0
def EO (E : OneV) (p : Nat) : Prop := E 0 1 = 0 ∧ E 0 3 = nI p ∧ E 0 4 = nI 0 ∧ bz (E 0 6) = 0
/-- how a VOLUME's reading ends: with a fault on both sides, or behind the semicolon -/
def Ends (I : MI) (J : MJ) (Q : RouV) (T : Nat) (L : Int32 × OneV × NodV) (R : Option MO) (p v : Nat) : Prop := ∃ p' b g' n' v' S', R = some (none, (vF I p' b g' n' v' S', J)) ∧ ((¬ b = 0 ∧ L.1 = 0) ∨ ∃ P N nn' k' E' U', b = 0 ∧ p' = nI P ∧ n' = nI N ∧ v' = nI (v + 1) ∧ p < P ∧ P ≤ T ∧ 2 * (T - P) + 1 ≤ nn' ∧ L = RTl Q nn' k' 1 E' U' ∧ EO E' P ∧ DI U' S' N (v + 1))
theorem Ends.up {I : MI} {J : MJ} {Q : RouV} {T : Nat} {L L' : Int32 × OneV × NodV} {R R' : Option MO} {p p' v : Nat} (h : Ends I J Q T L R p' v) (hL : L' = L) (hR : R' = R) (hp : p ≤ p') : Ends I J Q T L' R' p v := by
  subst hL hR
  obtain ⟨a, b, g, n, w, S, e, z⟩ := h
  refine ⟨a, b, g, n, w, S, e, ?_⟩
  rcases z with z | ⟨P, N, nn', k', E', U', z1, z2, z3, z4, z5, z6⟩
  · exact Or.inl z
  · exact Or.inr ⟨P, N, nn', k', E', U', z1, z2, z3, z4, by omega, z6⟩
theorem Ends.bad {I : MI} {J : MJ} {Q : RouV} {T : Nat} {L : Int32 × OneV × NodV} {R : Option MO} {p v : Nat} {p' b g' n' v' : Int32} {S' : RowV} (e : R = some (none, (vF I p' b g' n' v' S', J))) (hb : ¬ b = 0) (hL : L.1 = 0) : Ends I J Q T L R p v := ⟨p', b, g', n', v', S', e, Or.inl ⟨hb, hL⟩⟩
theorem vol_in {I : MI} {Q : RouV} {T : Nat} (t : RTap I Q T) {J : MJ} (h : RefL J) : ∀ (r p : Nat), T - p ≤ r → p ≤ T → ∀ (nn k : Nat) (E : OneV) (U : NodV) (S : RowV) (n v d f pr : Nat) (g x4 : Int32), 2 * (T - p) ≤ nn → 1 ≤ nn → EI E p d f → DI U S n (v + 1) → f < n → U 4 f = 2 → U 1 f = nI v → Ch U d f → d ≤ 8 → pr ≤ p → (∀ k, pr ≤ k → k < p → Bk (Q 1 k)) → (x4 = -1 ∨ p = T ∨ (¬ Bk (Q 1 p) ∧ ¬ Q 1 p = 123)) → Ends I J Q T (RTl Q nn k 1 E U) (V13 (nI f) (nI d) x4 (vF I (nI pr) 0 g (nI n) (nI v) S, J)) p v := by
  have T4 := t.1.1
  intro r
  induction r with
  | zero =>
    intro p hr hp nn k E U S n v d f pr g x4 hnn h1 hE hD hf ff fv hch hd hpr hbl hx
    have pT : p = T := by omega
    obtain ⟨nn, rfl⟩ : ∃ q, nn = q + 1 := ⟨nn - 1, by omega⟩
    obtain ⟨e1, e3, e4, e5, e6⟩ := hE
    have hs : Sk Q T p p := ⟨Nat.le_refl _, hp, fun k a b => by omega, Or.inl pT⟩
    have hs' := hs.back hpr hbl
    have c : q_X5_at Q (nI p) = -1 := t.1.out (by omega) (by omega)
    have hl : q_X9_isLetter (q_X5_at Q (nI p)) = 0 := by rw [c]; decide
    obtain ⟨q1, q2⟩ := in_no (E := uv E 0 3 (nI p)) (Q := Q) (U := U) hl (fun z => by rw [c] at z; exact absurd z (by decide)) (fun z => by rw [c] at z; exact absurd z (by decide))
    refine Ends.bad (V13_no t h g (nI n) (nI v) S hs' (nI f) (nI d) x4 hl (fun z => by rw [c] at z; exact absurd z (by decide)) (fun z => by rw [c] at z; exact absurd z (by decide)) (fun z => by rw [c] at z; exact absurd z (by decide))) i10 ?_
    rw [lp_in t.1 hs nn k E U e3 e6, q1, q2]
    exact lp_fail _ _ _ _ _ _ _ i10
  | succ r ih =>
    intro p hr hp nn k E U S n v d f pr g x4 hnn h1 hE hD hf ff fv hch hd hpr hbl hx
    obtain ⟨nn, rfl⟩ : ∃ q, nn = q + 1 := ⟨nn - 1, by omega⟩
    obtain ⟨e1, e3, e4, e5, e6⟩ := hE
    have n40 := hD.1.2.1
    obtain ⟨s, hs⟩ := Sk.ex Q hp
    have hs' := hs.back hpr hbl
    have s1 := hs.1
    have s2 := hs.2.1
    have lp := lp_in t.1 hs nn k E U e3 e6
    have u3 : uv E 0 3 (nI s) 0 3 = nI s := uv_s _ _ _ _
    have u4 : uv E 0 3 (nI s) 0 4 = nI d := by rw [uv_n _ _ _ _ _ _ (by decide)]; exact e4
    have u5 : uv E 0 3 (nI s) 0 5 = nI f := by rw [uv_n _ _ _ _ _ _ (by decide)]; exact e5
    have u1 : uv E 0 3 (nI s) 0 1 = 0 := by rw [uv_n _ _ _ _ _ _ (by decide)]; exact e1
    have u6 : ¬ bz (uv E 0 3 (nI s) 0 6) = 0 := by rw [uv_n _ _ _ _ _ _ (by decide)]; exact e6
    have no : q_X9_isLetter (q_X5_at Q (nI s)) = 0 → (q_X5_at Q (nI s) = 125 → d = 0) → (q_X5_at Q (nI s) = 59 → ¬ d = 0) → Ends I J Q T (RTl Q (nn + 1) k 1 E U) (V13 (nI f) (nI d) x4 (vF I (nI pr) 0 g (nI n) (nI v) S, J)) p v := by
      intro hl h2 h3
      have hd0 : ¬ d = 0 → ¬ nI d = 0 := fun z w => z ((nI_eq (b := 0) (by omega) (by decide)).mp w)
      obtain ⟨q1, q2⟩ := in_no (E := uv E 0 3 (nI s)) (Q := Q) (U := U) hl (fun z => by rw [u4, h2 z]; decide) (fun z => by rw [u4]; exact hd0 (h3 z))
      refine Ends.bad (V13_no t h g (nI n) (nI v) S hs' (nI f) (nI d) x4 hl (fun z => ?_) (fun z => by rw [h2 z]; decide) (fun z => hd0 (h3 z))) i10 ?_
      · rcases hx with y | y
        · exact y
        · exfalso
          have sp : s = p := hs.uniq (y.elim Or.inl (fun w => Or.inr w.1))
          subst sp
          rcases y with w | ⟨_, w⟩
          · rw [t.1.out (by omega) (by omega)] at z
            exact absurd z (by decide)
          · by_cases wT : s = T
            · rw [t.1.out (by omega) (by omega)] at z
              exact absurd z (by decide)
            · rw [t.1.in (by omega)] at z
              exact w z
      · rw [lp, q1, q2]
        exact lp_fail _ _ _ _ _ _ _ i10
    by_cases sT : s = T
    · have c : q_X5_at Q (nI s) = -1 := t.1.out (by omega) (by omega)
      exact no (by rw [c]; decide) (fun z => by rw [c] at z; exact absurd z (by decide)) (fun z => by rw [c] at z; exact absurd z (by decide))
    · have lt : s < T := by omega
      have cin : q_X5_at Q (nI s) = Q 1 s := t.1.in lt
      by_cases c59 : q_X5_at Q (nI s) = 59
      · by_cases d0 : d = 0
        · subst d0
          obtain ⟨q1, q2, q3⟩ := in_semi (E := uv E 0 3 (nI s)) (Q := Q) (U := U) u4
          rw [c59, q1, q2, q3, u3, nI_1] at lp
          refine ⟨_, 0, _, _, _, _, V13_semi t h g (nI n) (nI v) S hs' (nI f) x4 c59, Or.inr ⟨s + 1, n, nn, k + 1, _, U, rfl, rfl, rfl, nI_1 v, by omega, by omega, by omega, lp, ⟨?_, ?_, ?_, ?_⟩, hD⟩⟩
          · rw [uv_n _ _ _ _ _ _ (by decide), uv_n _ _ _ _ _ _ (by decide)]; exact u1
          · exact uv_s _ _ _ _
          · rw [uv_n _ _ _ _ _ _ (by decide), uv_n _ _ _ _ _ _ (by decide)]; exact u4
          · rw [uv_n _ _ _ _ _ _ (by decide), uv_s]; rfl
        · exact no (by rw [c59]; decide) (fun z => by rw [c59] at z; exact absurd z (by decide)) (fun _ => d0)
      · by_cases c125 : q_X5_at Q (nI s) = 125
        · by_cases d0 : d = 0
          · exact no (by rw [c125]; decide) (fun _ => d0) (fun z => absurd z c59)
          · obtain ⟨d, rfl⟩ : ∃ q, d = q + 1 := ⟨d - 1, by omega⟩
            obtain ⟨pp, pp1, pp2, pp3⟩ := hch
            obtain ⟨q1, q2, q3⟩ := in_close (E := uv E 0 3 (nI s)) (Q := Q) (U := U) (by rw [u4]; exact nI_ge (a := 0) (by omega) (by omega))
            have par : q_X2_parentOf U (nI f) = nI pp := by
              unfold q_X2_parentOf
              rw [hD.ex hf, if_neg i10, ix_nI (by omega), pp2]
            rw [c125, q1, q2, q3, u3, u4, u5, par, nI_1, nI_p] at lp
            have cl := V13_close t h g (nI n) (nI v) S (f := f) (d := d + 1) hs' x4 c125 (by omega) (by omega) (by omega)
            rw [(hD.2.1 f hf).2.1, pp2, show d + 1 - 1 = d from rfl] at cl
            obtain ⟨z1, _, _, z4, z5, _⟩ : U 2 f = nI pp ∧ True ∧ True ∧ U 4 pp = 2 ∧ U 1 pp = U 1 f ∧ True := by
              rcases hD.2.2.1 f hf with ⟨y, _⟩ | ⟨q, q1, q2, q3, q4, _⟩
              · exact absurd (pp2.symm.trans y) (nI_m1 (by omega))
              · have : pp = q := (nI_eq (by omega) (by omega)).mp (pp2.symm.trans q2)
                subst this
                exact ⟨q2, trivial, trivial, q3, q4, trivial⟩
            refine (ih (s + 1) (by omega) (by omega) nn (k + 1) _ U S n v d pp (s + 1) g (-1) (by omega) (by omega) ⟨?_, ?_, ?_, ?_, ?_⟩ hD (by omega) z4 (by rw [z5]; exact fv) pp3 (by omega) (Nat.le_refl _) (fun k a b => by omega) (Or.inl rfl)).up lp cl (by omega)
            · simp [uv]; exact e1
            · exact uv_s _ _ _ _
            · simp [uv]
            · simp [uv]
            · simp [uv]; exact e6
        · by_cases let1 : q_X9_isLetter (q_X5_at Q (nI s)) = 0
          · exact no let1 (fun z => absurd z c125) (fun z => absurd z c59)
          · have let1' : q_X9_isLetter (q_X5_at Q (nI s)) = 1 := by
              rw [cin] at let1 ⊢
              rcases t.1.lt lt with ⟨q1, _⟩ | ⟨q1, _⟩
              · exact q1
              · exact absurd q1 let1
            have lt0 : Lt (Q 1 s) := by
              rcases t.1.lt lt with ⟨_, q1⟩ | ⟨q1, _⟩
              · exact q1
              · rw [cin] at let1; exact absurd q1 let1
            obtain ⟨q1, q2, q3⟩ := in_item (E := uv E 0 3 (nI s)) (Q := Q) (U := U) let1'
            rw [q1, q2, q3] at lp
            rcases Nat.lt_or_ge n 40 with nl | nl
            · have oi : o_X3_readItem (uv E 0 3 (nI s)) Q U = lp_X3_readItem Q U (nI s) 4 (uv E 0 3 (nI s)) := by
                unfold o_X3_readItem
                rw [hD.1.1, if_pos (show nI n < 40 from nI_lt (b := 40) nl (by decide)), u3]
              rw [oi] at lp
              obtain ⟨e, ee1, ee2, ee3, ee4⟩ := ex_first (fun k => ¬ Lt (Q 1 k)) s T s2
              have lts : ∀ k, s ≤ k → k < e → Lt (Q 1 k) := fun k a b => Classical.not_not.mp (ee3 k a b)
              have se : s < e := by
                rcases Nat.eq_or_lt_of_le ee1 with y | y
                · subst y
                  rcases ee4 with w | w
                  · omega
                  · exact absurd lt0 w
                · exact y
              obtain ⟨L, rfl⟩ : ∃ q, e = s + q := ⟨e - s, by omega⟩
              have ltj : ∀ j, j < L → Lt (Q 1 (s + j)) := fun j hj => lts (s + j) (by omega) (by omega)
              rcases Nat.lt_or_ge 4 L with l5 | l4
              · obtain ⟨E', z⟩ := item_long t.1 U (nI s) (s := s) (by omega) (fun j hj => ltj j (by omega)) 4 0 (uv E 0 3 (nI s)) (by omega) u3
                rw [z] at lp
                refine Ends.bad (V13_long t h g (nI v) S hs' nl (nI f) (nI d) x4 (by omega) (fun j hj => ltj j (by omega))) i10 ?_
                rw [lp]
                exact lp_fail _ _ _ _ _ _ _ i10
              · have nm := nb_all t.1 ee2 ltj (by omega) l4
                have rn := V13_name t h g (nI v) S hs' nl (nI f) (nI d) x4 (by omega) l4 ee2 ltj ee4
                rw [item_go t.1 U (nI s) ee2 ltj ee4 4 0 (uv E 0 3 (nI s)) (Nat.zero_le _) (by omega) u3] at lp
                have E2 : uv (uv E 0 3 (nI s)) 0 3 (nI (s + L)) = uv E 0 3 (nI (s + L)) := by
                  funext a b
                  unfold uv
                  split <;> simp_all
                rw [E2] at lp
                have w3 : uv E 0 3 (nI (s + L)) 0 3 = nI (s + L) := uv_s _ _ _ _
                have w5 : uv E 0 3 (nI (s + L)) 0 5 = nI f := by rw [uv_n _ _ _ _ _ _ (by decide)]; exact e5
                have nle : q_X9_isLetter (q_X5_at Q (nI (s + L))) = 0 := by
                  by_cases z : s + L = T
                  · rw [t.1.out (by omega) (by omega)]; decide
                  · rcases t.1.lt (show s + L < T by omega) with ⟨_, y⟩ | ⟨y, _⟩
                    · exact absurd y (ee4.resolve_left z)
                    · rw [t.1.in (by omega)]; exact y
                obtain ⟨s', hs2⟩ := Sk.ex Q ee2
                have sk2 := skip_q t.1 hs2 w3
                have E3 : uv (uv E 0 3 (nI (s + L))) 0 3 (nI s') = uv E 0 3 (nI s') := by
                  funext a b
                  unfold uv
                  split <;> simp_all
                rw [E3] at sk2
                unfold e_X3_readItem at lp
                rw [w3, w5, if_pos nle, sk2] at lp
                generalize q_X9_nameBetween Q (nI s) (nI (s + L)) = nx at nm lp
                generalize rnm (Q 1) s L = ny at nm rn
                have v3 : uv E 0 3 (nI s') 0 3 = nI s' := uv_s _ _ _ _
                have v4 : uv E 0 3 (nI s') 0 4 = nI d := by rw [uv_n _ _ _ _ _ _ (by decide)]; exact e4
                rw [v3] at lp
                rcases hD.find hf nm with ⟨fd, tw⟩ | ⟨fd, tw⟩
                · rw [if_pos fd] at lp
                  obtain ⟨an, aD, ao, a1, a2⟩ := hD.add nl hf ff fv nm fd
                  rw [w_drafts h I _ g (nI v) S nl (nI f) ny (nI s) (nI_m1 (by omega)) tw] at rn
                  simp only [Option.bind_some, asI_I] at rn
                  rw [an] at lp
                  generalize gU_X2_addIn U (nI f) nx 1 = U1 at lp aD ao a1 a2
                  have chf : Ch U1 d f := Ch.cg (n := n) (fun k hk => (ao k hk).2.1) d f hf hch
                  by_cases br : q_X5_at Q (nI s') = 123
                  · rw [if_pos br] at lp
                    have s'T : s' < T := by
                      rcases Nat.eq_or_lt_of_le hs2.2.1 with y | y
                      · rw [t.1.out (by omega) (by have := hs2.2.1; omega)] at br
                        exact absurd br (by decide)
                      · exact y
                    have ss := hs2.1
                    rcases Nat.lt_or_ge d 8 with d8 | d8
                    · have of1 : q_X3_openFolder (uv E 0 3 (nI s')) U1 (nI n) = 1 := by
                        unfold q_X3_openFolder
                        rw [v4, if_pos (show nI d < 8 from nI_lt (b := 8) d8 (by decide))]
                      have of2 : gE_X3_openFolder (uv E 0 3 (nI s')) U1 (nI n) = uv (uv (uv (uv E 0 3 (nI s')) 0 5 (nI n)) 0 4 (nI (d + 1))) 0 3 (nI (s' + 1)) := by
                        unfold gE_X3_openFolder
                        rw [v4, if_pos (show nI d < 8 from nI_lt (b := 8) d8 (by decide)), v3, nI_1, nI_1]
                      have of3 : gU_X3_openFolder (uv E 0 3 (nI s')) U1 (nI n) = gU_X2_becomeFolder U1 (nI n) := by
                        unfold gU_X3_openFolder
                        rw [v4, if_pos (show nI d < 8 from nI_lt (b := 8) d8 (by decide))]
                      rw [of1, of2, of3, if_neg i10] at lp
                      obtain ⟨fD, fo, f4⟩ := aD.fold (show n < n + 1 by omega)
                      rw [V13_open t h g (nI (n + 1)) (nI v) _ hs2 (nI f) br nl d8] at rn
                      dsimp only at lp
                      refine (ih (s' + 1) (by omega) (by omega) nn (k + 1) _ _ _ (n + 1) v (d + 1) n (s' + 1) g (-1) (by omega) (by omega) ⟨?_, ?_, ?_, ?_, ?_⟩ fD (by omega) f4 (by rw [(fo n).1]; exact a1) ⟨f, hf, by rw [(fo n).2]; exact a2, Ch.cg (n := n + 1) (fun k _ => (fo k).2) d f (by omega) chf⟩ (by omega) (Nat.le_refl _) (fun k a b => by omega) (Or.inl rfl)).up lp rn (by omega)
                      · simp [uv]; exact e1
                      · exact uv_s _ _ _ _
                      · simp [uv]
                      · simp [uv]
                      · simp [uv]; exact e6
                    · have dd : d = 8 := by omega
                      subst dd
                      have of1 : q_X3_openFolder (uv E 0 3 (nI s')) U1 (nI n) = 0 := by
                        unfold q_X3_openFolder
                        rw [v4, if_neg (show ¬ nI 8 < 8 by decide)]
                        rfl
                      have of2 : gE_X3_openFolder (uv E 0 3 (nI s')) U1 (nI n) = gE_X3_fail (uv E 0 3 (nI s')) 5 (nI s') := by
                        unfold gE_X3_openFolder
                        rw [v4, if_neg (show ¬ nI 8 < 8 by decide), v3]
                      rw [of1, of2, if_pos rfl] at lp
                      obtain ⟨S', z⟩ := V13_open8 t h g (nI (n + 1)) (nI v) (dS S n (nI v) 0 (nI f) ny) hs2 (nI f) br nl
                      refine Ends.bad (rn.trans z) (by decide) ?_
                      rw [lp]
                      exact lp_fail _ _ _ _ _ _ _ (by decide)
                  · rw [if_neg br] at lp
                    have ss := hs2.1
                    have sT2 := hs2.2.1
                    dsimp only at lp
                    refine (ih s' (by omega) hs2.2.1 nn (k + 1) _ U1 _ (n + 1) v d f (s + L) g (nI n) (by omega) (by omega) ⟨?_, ?_, ?_, ?_, ?_⟩ aD (by omega) (by rw [(ao f hf).2.2]; exact ff) (by rw [(ao f hf).1]; exact fv) chf hd hs2.1 hs2.2.2.1 ?_).up lp rn (by omega)
                    · rw [uv_n _ _ _ _ _ _ (by decide)]; exact e1
                    · exact v3
                    · exact v4
                    · rw [uv_n _ _ _ _ _ _ (by decide)]; exact e5
                    · rw [uv_n _ _ _ _ _ _ (by decide)]; exact e6
                    · by_cases y : s' = T
                      · exact Or.inr (Or.inl y)
                      · rw [t.1.in (by omega)] at br
                        exact Or.inr (Or.inr ⟨hs2.2.2.2.resolve_left y, br⟩)
                · rw [if_neg fd] at lp
                  obtain ⟨b', g', hb, z⟩ := w_drafts_two h I (nI (s + L)) g (nI v) S nl (nI f) ny (nI s) (nI_m1 (by omega)) tw
                  rw [z] at rn
                  simp only [Option.bind_some, asI_I] at rn
                  rw [V13_bad h I _ b' g' _ _ _ hb] at rn
                  refine Ends.bad rn hb ?_
                  rw [lp]
                  exact lp_fail _ _ _ _ _ _ _ (by decide)
            · have nn40 : n = 40 := by omega
              subst nn40
              have oi : o_X3_readItem (uv E 0 3 (nI s)) Q U = (0, gE_X3_fail (uv E 0 3 (nI s)) 5 (nI s), U) := by
                unfold o_X3_readItem
                rw [hD.1.1, if_neg (show ¬ nI 40 < 40 by decide), u3]
                rfl
              rw [oi] at lp
              refine Ends.bad (V13_full t h g (nI v) S hs' (nI f) (nI d) x4 let1') (by decide) ?_
              rw [lp]
              exact lp_fail _ _ _ _ _ _ _ (by decide)
end

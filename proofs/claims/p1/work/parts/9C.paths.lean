/-! Steps and paths on the tape, on both sides. -/
/-- the reference's heap while it reads: at is p, stepMany is m, steps (192) are S -/
def pF (I : MI) (p m : Int32) (S : RowV) : MI := fun a j => if a = 192 then S j else if a = 188 ∧ j = 2 then p else if a = 188 ∧ j = 15 then m else I a j
theorem pF_2 (I : MI) (p m : Int32) (S : RowV) : pF I p m S 188 2 = p := by
  unfold pF
  rw [if_neg (by decide), if_pos ⟨rfl, rfl⟩]
theorem pF_15 (I : MI) (p m : Int32) (S : RowV) : pF I p m S 188 15 = m := by
  unfold pF
  rw [if_neg (by decide), if_neg (by decide), if_pos ⟨rfl, rfl⟩]
theorem pF_S (I : MI) (p m : Int32) (S : RowV) : pF I p m S 192 = S := by
  funext j
  unfold pF
  rw [if_pos rfl]
theorem pF_k (I : MI) (p m : Int32) (S : RowV) {k : Nat} (h2 : k ≠ 2) (h15 : k ≠ 15) : pF I p m S 188 k = I 188 k := by
  unfold pF
  rw [if_neg (by decide), if_neg (fun q => h2 q.2), if_neg (fun q => h15 q.2)]
theorem pF_o (I : MI) (p m : Int32) (S : RowV) {a : Nat} (h1 : a ≠ 188) (h2 : a ≠ 192) : pF I p m S a = I a := by
  funext j
  unfold pF
  rw [if_neg h2, if_neg (fun q => h1 q.1), if_neg (fun q => h1 q.1)]
theorem pF_s2 (I : MI) (p m : Int32) (S : RowV) (v : Int32) : up2 (pF I p m S) 188 2 v = pF I v m S := by
  funext a j
  unfold up2 pF
  by_cases h : a = 188 ∧ j = 2
  · rw [if_pos h, if_neg (by omega), if_pos h]
  · simp [h]
theorem pF_s15 (I : MI) (p m : Int32) (S : RowV) (v : Int32) : up2 (pF I p m S) 188 15 v = pF I p v S := by
  funext a j
  unfold up2 pF
  by_cases h : a = 188 ∧ j = 15
  · rw [if_pos h, if_neg (by omega), if_neg (by omega), if_pos h]
  · by_cases h2 : a = 188 ∧ j = 2
    · rw [if_neg h, if_neg (by omega), if_pos h2, if_neg (by omega), if_pos h2]
    · simp [h, h2]
theorem pF_sS (I : MI) (p m : Int32) (S : RowV) (i : Nat) (v : Int32) : up2 (pF I p m S) 192 i v = pF I p m (sD S i v) := by
  funext a j
  unfold up2 pF sD
  by_cases h : a = 192
  · subst h
    simp
  · simp [h]
theorem pF_id (I : MI) : pF I (I 188 2) (I 188 15) (I 192) = I := by
  funext a j
  unfold pF
  by_cases h : a = 192
  · rw [if_pos h, h]
  · rw [if_neg h]
    by_cases h2 : a = 188 ∧ j = 2
    · rw [if_pos h2, h2.1, h2.2]
    · rw [if_neg h2]
      by_cases h3 : a = 188 ∧ j = 15
      · rw [if_pos h3, h3.1, h3.2]
      · rw [if_neg h3]
/-- the reference's tape is the class's -/
def RTap (I : MI) (Q : RouV) (T : Nat) : Prop := Tap Q T ∧ I 188 3 = nI T ∧ ∀ k, k < T → I 189 k = Q 1 k
theorem RTap.ld {I : MI} {Q : RouV} {T : Nat} (t : RTap I Q T) {J : MJ} (h : RefL J) (p m : Int32) (S : RowV) {k : Nat} (hk : k < T) {x : Int32} (hx : x = nI k) : ld (pF I p m S, J) 11 189 x = some (Q 1 k) := by
  have := t.1.1
  subst hx
  rw [ld_ok _ h.s0 (inb_nI (show k < 400 by omega) (by decide)), show (nI k).toNatClampNeg = k from ix_nI (by omega), pF_o _ _ _ _ (by decide) (by decide), t.2.2 k hk]
theorem ex_first (P : Nat → Prop) (a : Nat) : ∀ b, a ≤ b → ∃ s, a ≤ s ∧ s ≤ b ∧ (∀ k, a ≤ k → k < s → ¬ P k) ∧ (s = b ∨ P s) := by
  intro b
  induction b with
  | zero => intro h; exact ⟨0, h, Nat.le_refl _, fun k _ z => by omega, Or.inl rfl⟩
  | succ b ih =>
    intro h
    rcases Nat.eq_or_lt_of_le h with q | q
    · exact ⟨b + 1, h, Nat.le_refl _, fun k z1 z2 => by omega, Or.inl rfl⟩
    · obtain ⟨s, s1, s2, s3, s4⟩ := ih (by omega)
      rcases s4 with z | z
      · by_cases w : P b
        · exact ⟨b, by omega, by omega, fun k z1 z2 => s3 k z1 (by omega), Or.inr w⟩
        · refine ⟨b + 1, h, Nat.le_refl _, fun k z1 z2 => ?_, Or.inl rfl⟩
          rcases Nat.lt_or_ge k b with y | y
          · exact s3 k z1 (by omega)
          · have : k = b := by omega
            rw [this]; exact w
      · exact ⟨s, s1, by omega, s3, Or.inr z⟩
/-- a letter or a dot -/
def Ld (c : Int32) : Prop := Lt c ∨ c = 46
/-- the loop over letters -/
theorem w_step120 {I : MI} {Q : RouV} {T : Nat} (t : RTap I Q T) {J : MJ} (h : RefL J) (m : Int32) (S : RowV) {p n : Nat} (hp : p + n ≤ T) : ∀ (nn k : Nat), k + nn = n → ∃ y, Ev T_X10_stepHere 120 [some (mR (some 188)), none, some (mI (nI n)), some (mI (rnm (Q 1) p k)), some (mI (nI (p + k)))] [] (pF I (nI (p + n)) m S, J) = some (some (mI y), (pF I (nI (p + n)) m S, J)) ∧ ((((∃ j, k ≤ j ∧ j < n ∧ ¬ Lt (Q 1 (p + j))) ∨ 4 < n) ∧ y = 0) ∨ ((∀ j, k ≤ j → j < n → Lt (Q 1 (p + j))) ∧ n ≤ 4 ∧ y = rnm (Q 1) p n)) := by
  have T4 := t.1.1
  intro nn
  induction nn with
  | zero =>
    intro k hk
    have : k = n := by omega
    subst this
    rw [E_X10_stepHere_120]
    simp only [h.fi, pF_2, Option.bind_some]
    rw [if_pos (Int32.le_refl _)]
    by_cases q : 4 < k
    · rw [if_neg (show ¬ nI k ≤ 4 from nI_ge (a := 4) q (by omega))]
      exact ⟨0, rfl, Or.inl ⟨Or.inr q, rfl⟩⟩
    · rw [if_pos (show nI k ≤ 4 from nI_le (b := 4) (by omega) (by decide))]
      exact ⟨_, rfl, Or.inr ⟨fun j j1 j2 => by omega, by omega, rfl⟩⟩
  | succ nn ih =>
    intro k hk
    rw [E_X10_stepHere_120]
    simp only [h.fi, pF_2, Option.bind_some, h.f0, t.ld h _ m S (show p + k < T by omega) rfl, w_isLetter, asI_I]
    rw [if_neg (nI_ge (show p + k < p + n by omega) (by omega))]
    rcases t.1.lt (show p + k < T by omega) with ⟨q1, q2⟩ | ⟨q1, q2⟩
    · rw [q1, if_neg i10]
      obtain ⟨y, y1, y2⟩ := ih (k + 1) (by omega)
      rw [show nI (p + k) + 1 = nI (p + (k + 1)) from nI_1 (p + k)]
      refine ⟨y, y1, ?_⟩
      rcases y2 with ⟨z1, z2⟩ | ⟨z1, z2, z3⟩
      · refine Or.inl ⟨?_, z2⟩
        rcases z1 with ⟨j, j1, j2, j3⟩ | z
        · exact Or.inl ⟨j, by omega, j2, j3⟩
        · exact Or.inr z
      · refine Or.inr ⟨fun j j1 j2 => ?_, z2, z3⟩
        rcases Nat.eq_or_lt_of_le j1 with y | y
        · subst y; exact q2
        · exact z1 j (by omega) j2
    · rw [q1, if_pos rfl]
      exact ⟨0, rfl, Or.inl ⟨Or.inl ⟨k, Nat.le_refl _, by omega, q2⟩, rfl⟩⟩
/-- the run of letters and dots -/
theorem w_step5 {I : MI} {Q : RouV} {T : Nat} (t : RTap I Q T) {J : MJ} (h : RefL J) (m : Int32) (S : RowV) {p q : Nat} (hpq : p ≤ q) (hq : q ≤ T) (hr : ∀ k, p ≤ k → k < q → Ld (Q 1 k)) (he : q = T ∨ ¬ Ld (Q 1 q)) : ∃ y, M_X10_stepHere [mR (some 188)] (pF I (nI p) m S, J) = some (some (mI y), (pF I (nI q) m S, J)) ∧ ((y = 0 ∧ q_X9_stepBetween Q (nI p) (nI q) = 0) ∨ NmS (q_X9_stepBetween Q (nI p) (nI q)) y) := by
  have T4 := t.1.1
  obtain ⟨n, rfl⟩ : ∃ n, q = p + n := ⟨q - p, by omega⟩
  have m3 : ∀ a, pF I a m S 188 3 = nI T := fun a => by rw [pF_k _ _ _ _ (by decide) (by decide)]; exact t.2.1
  have l46 : q_X9_isLetter 46 = 0 := by decide
  have n46 : ¬ Lt 46 := by
    rintro ⟨a, a1, a2, a3⟩
    have : (46 : Nat) = 96 + a := (nI_eq (by decide) (by omega)).mp a3
    omega
  have run : ∀ k, k ≤ n → Ev T_X10_stepHere 5 [some (mR (some 188)), some (mI (nI p)), none, none, none] [] (pF I (nI p) m S, J) = Ev T_X10_stepHere 5 [some (mR (some 188)), some (mI (nI p)), none, none, none] [] (pF I (nI (p + k)) m S, J) := by
    intro k
    induction k with
    | zero => intro _; rfl
    | succ k ih =>
      intro hk
      rw [ih (by omega), E_X10_stepHere_5]
      simp only [h.fi, pF_2, m3, Option.bind_some, h.f0, t.ld h _ m S (show p + k < T by omega) rfl, w_isLetter, asI_I]
      rw [if_neg (nI_ge (show p + k < T by omega) (by omega))]
      rcases hr (p + k) (by omega) (by omega) with z | z
      · rw [lt_q z, if_neg i10, h.wi, Option.bind_some, pF_s2, nI_1]
        rfl
      · rw [z, l46, if_pos rfl, if_pos rfl, h.wi, Option.bind_some, pF_s2, nI_1]
        rfl
  have fin : Ev T_X10_stepHere 5 [some (mR (some 188)), some (mI (nI p)), none, none, none] [] (pF I (nI (p + n)) m S, J) = (if nI (p + n) - nI p = 1 then (ld (pF I (nI (p + n)) m S, J) 11 189 (nI p)).bind fun v5 => (if v5 = 46 then some (some (mI (-1)), (pF I (nI (p + n)) m S, J)) else (if nI (p + n) - nI p = 2 then (ld (pF I (nI (p + n)) m S, J) 11 189 (nI p)).bind fun v8 => (if v8 = 46 then (ld (pF I (nI (p + n)) m S, J) 11 189 (nI p + 1)).bind fun v11 => (if v11 = 46 then some (some (mI (-2)), (pF I (nI (p + n)) m S, J)) else Ev T_X10_stepHere 120 [some (mR (some 188)), none, some (mI (nI (p + n) - nI p)), some (mI 0), some (mI (nI p))] [] (pF I (nI (p + n)) m S, J)) else Ev T_X10_stepHere 120 [some (mR (some 188)), none, some (mI (nI (p + n) - nI p)), some (mI 0), some (mI (nI p))] [] (pF I (nI (p + n)) m S, J)) else Ev T_X10_stepHere 120 [some (mR (some 188)), none, some (mI (nI (p + n) - nI p)), some (mI 0), some (mI (nI p))] [] (pF I (nI (p + n)) m S, J))) else (if nI (p + n) - nI p = 2 then (ld (pF I (nI (p + n)) m S, J) 11 189 (nI p)).bind fun v14 => (if v14 = 46 then (ld (pF I (nI (p + n)) m S, J) 11 189 (nI p + 1)).bind fun v17 => (if v17 = 46 then some (some (mI (-2)), (pF I (nI (p + n)) m S, J)) else Ev T_X10_stepHere 120 [some (mR (some 188)), none, some (mI (nI (p + n) - nI p)), some (mI 0), some (mI (nI p))] [] (pF I (nI (p + n)) m S, J)) else Ev T_X10_stepHere 120 [some (mR (some 188)), none, some (mI (nI (p + n) - nI p)), some (mI 0), some (mI (nI p))] [] (pF I (nI (p + n)) m S, J)) else Ev T_X10_stepHere 120 [some (mR (some 188)), none, some (mI (nI (p + n) - nI p)), some (mI 0), some (mI (nI p))] [] (pF I (nI (p + n)) m S, J))) := by
    rw [E_X10_stepHere_5]
    simp only [h.fi, pF_2, m3, Option.bind_some, h.f0]
    by_cases z : p + n = T
    · rw [if_pos (nI_le (by omega) (by omega))]
    · have lt : p + n < T := by omega
      rw [if_neg (nI_ge lt (by omega))]
      have nl := he.resolve_left z
      rcases t.1.lt lt with ⟨q1, q2⟩ | ⟨q1, q2⟩
      · exact absurd (Or.inl q2) nl
      · have nd : ¬ Q 1 (p + n) = 46 := fun z => nl (Or.inr z)
        rw [t.ld h _ m S lt rfl, Option.bind_some, w_isLetter, Option.bind_some, asI_I, Option.bind_some, q1, if_pos rfl]
        simp only [h.fi, pF_2, h.f0, Option.bind_some]
        rw [t.ld h _ m S lt rfl, Option.bind_some, if_neg nd]
  obtain ⟨y0, lp, lpy⟩ := w_step120 t h m S (p := p) (n := n) hq n 0 (by omega)
  rw [Nat.add_zero] at lp
  have e0 : rnm (Q 1) p 0 = 0 := rfl
  rw [e0] at lp
  rw [E_X10_stepHere]
  simp only [h.fi, pF_2, Option.bind_some]
  rw [run n (Nat.le_refl _), fin, nI_sub (by omega), show p + n - p = n by omega, lp]
  have sb : q_X9_stepBetween Q (nI p) (nI (p + n)) = (if q_X5_at Q (nI p) = 46 then (if nI n = 1 then -1 else (if nI n = 2 then (if q_X5_at Q (nI p + 1) = 46 then -2 else q_X9_nameBetween Q (nI p) (nI (p + n))) else q_X9_nameBetween Q (nI p) (nI (p + n)))) else q_X9_nameBetween Q (nI p) (nI (p + n))) := by
    unfold q_X9_stepBetween
    rw [nI_sub (by omega), show p + n - p = n by omega]
  have name : ((y0 = 0 ∧ q_X9_nameBetween Q (nI p) (nI (p + n)) = 0) ∨ NmS (q_X9_nameBetween Q (nI p) (nI (p + n))) y0) := by
    rcases lpy with ⟨c, c2⟩ | ⟨c, c2, c3⟩
    · refine Or.inl ⟨c2, nb_none t.1 hq ?_⟩
      rcases c with ⟨j, _, j2, j3⟩ | z
      · exact Or.inr (Or.inr ⟨j, j2, j3⟩)
      · exact Or.inr (Or.inl z)
    · rw [c3]
      by_cases z : n = 0
      · subst z
        exact Or.inl ⟨rfl, nb_none t.1 hq (Or.inl rfl)⟩
      · exact Or.inr (Or.inl (nb_all t.1 hq (fun j hj => c j (Nat.zero_le _) hj) (by omega) c2))
  rw [sb]
  have n1 : nI n = 1 ↔ n = 1 := nI_eq (b := 1) (by omega) (by decide)
  have n2 : nI n = 2 ↔ n = 2 := nI_eq (b := 2) (by omega) (by decide)
  by_cases c1 : n = 1
  · subst c1
    have lt : p < T := by omega
    rw [if_pos (n1.mpr rfl), t.ld h _ m S lt rfl, Option.bind_some, t.1.in lt]
    by_cases d : Q 1 p = 46
    · rw [if_pos d, if_pos d, if_pos (n1.mpr rfl)]
      exact ⟨-1, rfl, Or.inr (Or.inr (Or.inl ⟨rfl, rfl⟩))⟩
    · rw [if_neg d, if_neg d, if_neg (show ¬ nI 1 = 2 by decide)]
      exact ⟨y0, rfl, name⟩
  · rw [if_neg (fun z => c1 (n1.mp z))]
    by_cases c2 : n = 2
    · subst c2
      have lt : p < T := by omega
      have lt1 : p + 1 < T := by omega
      rw [if_pos (n2.mpr rfl), t.ld h _ m S lt rfl, Option.bind_some, t.1.in lt, t.ld h _ m S lt1 (nI_1 p), Option.bind_some, nI_1, t.1.in lt1]
      by_cases d : Q 1 p = 46
      · rw [if_pos d, if_pos d, if_neg (show ¬ nI 2 = 1 by decide), if_pos (n2.mpr rfl)]
        by_cases d2 : Q 1 (p + 1) = 46
        · rw [if_pos d2, if_pos d2]
          exact ⟨-2, rfl, Or.inr (Or.inr (Or.inr ⟨rfl, rfl⟩))⟩
        · rw [if_neg d2, if_neg d2]
          exact ⟨y0, rfl, name⟩
      · rw [if_neg d, if_neg d]
        exact ⟨y0, rfl, name⟩
    · rw [if_neg (fun z => c2 (n2.mp z))]
      refine ⟨y0, rfl, ?_⟩
      by_cases d : q_X5_at Q (nI p) = 46
      · rw [if_pos d, if_neg (fun z => c1 (n1.mp z)), if_neg (fun z => c2 (n2.mp z))]
        exact name
      · rw [if_neg d]
        exact name

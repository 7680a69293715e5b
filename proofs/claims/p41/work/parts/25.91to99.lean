section
/-! The reference counts who holds what. -/
def inc (G : RowV) (i : Nat) : RowV := sD G i (G i + 1)
theorem inc_e (G : RowV) (i e : Nat) : inc G i e = G e + nI (if i = e then 1 else 0) := by
  unfold inc sD
  by_cases q : e = i
  · rw [if_pos q, if_pos q.symm, q]
    rfl
  · rw [if_neg q, if_neg (Ne.symm q), nI_0, Int32.add_zero]
theorem itr_add {f : Nat → RowV → RowV} {a : Nat → Nat → Nat} {N : Nat} : ∀ (n k : Nat) (G : RowV), (∀ i G e, k ≤ i → i < k + n → e < N → f i G e = G e + nI (a i e)) → ∀ e, e < N → itr f k n G e = G e + nI (sm (fun i => a i e) k n)
  | 0, k, G, _, e, _ => by
    show G e = G e + nI 0
    rw [nI_0, Int32.add_zero]
  | n + 1, k, G, h, e, he => by
    show itr f (k + 1) n (f k G) e = G e + nI (a k e + sm (fun i => a i e) (k + 1) n)
    rw [itr_add n (k + 1) (f k G) (fun i G e h1 h2 h3 => h i G e (by omega) (by omega) h3) e he, h k G e (Nat.le_refl _) (by omega) he, Int32.add_assoc, nI_add]
theorem sm_cnt (P : Nat → Bool) : ∀ n k, sm (fun i => if P i = true then 1 else 0) k n = cnt P k n
  | 0, k => rfl
  | n + 1, k => by
    unfold sm cnt
    rw [sm_cnt P n (k + 1)]
theorem sm_add (a b : Nat → Nat) : ∀ n k, sm (fun i => a i + b i) k n = sm a k n + sm b k n
  | 0, k => rfl
  | n + 1, k => by
    unfold sm
    rw [sm_add a b n (k + 1)]
    omega
theorem sm_at {a : Nat → Nat} {e : Nat} : ∀ {n k : Nat}, k ≤ e → e < k + n → (∀ i, k ≤ i → i < k + n → i ≠ e → a i = 0) → sm a k n = a e
  | 0, k, h1, h2, _ => by omega
  | n + 1, k, h1, h2, h => by
    unfold sm
    by_cases q : k = e
    · subst q
      rw [sm_zero (fun i p q => h i (by omega) (by omega) (by omega))]
      rfl
    · rw [h k (Nat.le_refl _) (by omega) q, sm_at (n := n) (k := k + 1) (by omega) (by omega) (fun i p q r => h i (by omega) (by omega) r)]
      omega
def CHd (D : RowV) : Prop := ∀ k, k < 6 → D (11 + k) = -1 ∨ ∃ e, e < 128 ∧ D (11 + k) = nI e
def CHw (D : RowV) : Prop := ∀ w, w < 4 → ¬ D (17 + 96 * w + 0) = 0 → ¬ D (17 + 96 * w + 1) = 0 → ∃ m, m ≤ 25 ∧ D (17 + 96 * w + 5) = nI m ∧ ∀ k, k < m → ∃ e, e < 128 ∧ D (17 + 96 * w + (18 + 3 * k)) = nI e
def CEd (D : RowV) : Prop := ∀ k, k < 128 → ¬ D (701 + 9 * k + 0) = 0 → D (701 + 9 * k + 1) = -1 ∨ ∃ p, p < 128 ∧ D (701 + 9 * k + 1) = nI p
def wF (D : RowV) (w e : Nat) : Nat := if D (17 + 96 * w + 0) = 0 ∨ D (17 + 96 * w + 1) = 0 then 0 else cnt (fun k => decide (D (17 + 96 * w + (18 + 3 * k)) = nI e)) 0 (ix (D (17 + 96 * w + 5)))
def hF (D : RowV) (e : Nat) : Nat := cnt (fun k => decide (D (11 + k) = nI e)) 0 6 + sm (fun w => wF D w e) 0 4
def eF (D : RowV) (e : Nat) : Nat := cnt (fun k => decide (¬ D (701 + 9 * k + 0) = 0 ∧ D (701 + 9 * k + 1) = nI e)) 0 128 + if ¬ D (701 + 9 * e + 0) = 0 ∧ ¬ D (701 + 9 * e + 7) = -1 then 1 else 0
def fHd (D : RowV) (k : Nat) (G : RowV) : RowV := if D (11 + k) = -1 then G else inc G (ix (D (11 + k)))
def fWy (D : RowV) (w k : Nat) (G : RowV) : RowV := inc G (ix (D (17 + 96 * w + (18 + 3 * k))))
def fWk (D : RowV) (w : Nat) (G : RowV) : RowV := if D (17 + 96 * w + 0) = 0 ∨ D (17 + 96 * w + 1) = 0 then G else itr (fWy D w) 0 (ix (D (17 + 96 * w + 5))) G
def fEn (D : RowV) (k : Nat) (G : RowV) : RowV := if D (701 + 9 * k + 0) = 0 then G else if D (701 + 9 * k + 7) = -1 then (if D (701 + 9 * k + 1) = -1 then G else inc G (ix (D (701 + 9 * k + 1)))) else inc (if D (701 + 9 * k + 1) = -1 then G else inc G (ix (D (701 + 9 * k + 1)))) k
theorem w_countsHands {J : MJ} (h : RefL J) (I : MI) (D G : RowV) (c : Int32) (h1 : CHd D) (h2 : CHw D) : ∃ G', M_X10_countsHands [mR (some 188)] (rF I D G c, J) = some (none, (rF I D G' c, J)) ∧ ∀ e, e < 128 → G' e = G e + nI (hF D e) := by
  refine ⟨itr (fWk D) 0 4 (itr (fHd D) 0 6 G), ?_, ?_⟩
  · rw [E_X10_countsHands]
    have s1 := loop_all (fun k G => Ev T_X10_countsHands 2 [some (mR (some 188)), some (mI (nI k)), none] [] (rF I D G c, J)) (fHd D) 6 G (fun k G hk => by
      try dsimp only
      rw [E_X10_countsHands_2, if_neg (show ¬ (6 : Int32) ≤ nI k from nI_ge hk (by decide))]
      have e11 : (11 : Int32) + nI k = nI (11 + k) := nI_add 11 k
      simp only [h.f18, h.f19, Option.bind_some, h.ldD _ e11 (show 11 + k < 1853 by omega), rF_D, nI_1]
      unfold fHd
      rcases h1 k hk with q | ⟨e, e1, e2⟩
      · rw [if_pos q, if_pos q]
      · have ne : ¬ D (11 + k) = -1 := by rw [e2]; exact nI_m1 (by omega)
        rw [if_neg ne, if_neg ne, e2, h.ldG _ rfl e1, Option.bind_some, rF_G, h.stG _ _ rfl e1, Option.bind_some, rF_sG, ix_nI (by omega)]
        rfl)
    try dsimp only at s1
    rw [show (nI 0) = 0 from rfl] at s1
    rw [s1, E_X10_countsHands_2, if_pos (show (6 : Int32) ≤ nI 6 by decide)]
    have s2 := loop_all (fun k G => Ev T_X10_countsHands 47 [some (mR (some 188)), some (mI (nI k)), none] [] (rF I D G c, J)) (fWk D) 4 (itr (fHd D) 0 6 G) (fun w G hw => by
      try dsimp only
      rw [E_X10_countsHands_47, if_neg (show ¬ (4 : Int32) ≤ nI w from nI_ge hw (by decide))]
      simp only [h.kt, if_true, w_walkerHas h _ 0 (show (0 : Int32) = nI 0 from rfl) hw (by decide), w_walkerHas h _ 1 (show (1 : Int32) = nI 1 from rfl) hw (by decide), Option.bind_some, asI_I, rF_D, nI_1]
      unfold fWk
      by_cases q0 : D (17 + 96 * w + 0) = 0
      · rw [if_pos q0, if_pos (Or.inl q0)]
      · rw [if_neg q0]
        by_cases q1 : D (17 + 96 * w + 1) = 0
        · rw [if_pos q1, if_pos (Or.inr q1)]
        · rw [if_neg q1, if_neg (fun z => z.elim q0 q1)]
          obtain ⟨m, m25, m1, m2⟩ := h2 w hw q0 q1
          have s3 := loop_all (fun k G => Ev T_X10_countsHands 75 [some (mR (some 188)), some (mI (nI w)), some (mI (nI k))] [] (rF I D G c, J)) (fWy D w) m G (fun k G hk => by
            try dsimp only
            have e18 : (18 : Int32) + 3 * nI k = nI (18 + 3 * k) := by
              rw [show (18 : Int32) = nI 18 from rfl, show (3 : Int32) = nI 3 from rfl, nI_mul, nI_add]
            rw [E_X10_countsHands_75]
            simp only [h.kt, if_true, w_walkerHas h _ 5 (show (5 : Int32) = nI 5 from rfl) hw (by decide), w_walkerHas h _ (18 + 3 * k) e18 hw (show 18 + 3 * k < 96 by omega), Option.bind_some, asI_I, rF_D, nI_1, h.f19, m1]
            rw [if_neg (nI_ge hk (by omega))]
            obtain ⟨e, e1, e2⟩ := m2 k hk
            unfold fWy
            rw [e2, h.ldG _ rfl e1, Option.bind_some, rF_G, h.stG _ _ rfl e1, Option.bind_some, rF_sG, ix_nI (by omega)]
            rfl)
          try dsimp only at s3
          rw [show (nI 0) = 0 from rfl] at s3
          rw [s3, E_X10_countsHands_75]
          simp only [h.kt, if_true, w_walkerHas h _ 5 (show (5 : Int32) = nI 5 from rfl) hw (by decide), Option.bind_some, asI_I, rF_D, nI_1, m1]
          rw [if_pos (Int32.le_refl _), ix_nI (by omega)])
    try dsimp only at s2
    rw [show (nI 0) = 0 from rfl] at s2
    rw [s2, E_X10_countsHands_47, if_pos (show (4 : Int32) ≤ nI 4 by decide)]
  · intro e he
    have p1 := itr_add (f := fHd D) (a := fun k e => if decide (D (11 + k) = nI e) = true then 1 else 0) (N := 128) 6 0 G (fun i G e _ hi he => by
      unfold fHd
      rcases h1 i (by omega) with q | ⟨f, f1, f2⟩
      · rw [if_pos q, q, if_neg (by simp only [decide_eq_true_eq]; exact fun z => nI_m1 (show e < 2 ^ 31 by omega) z.symm), nI_0, Int32.add_zero]
      · rw [if_neg (by rw [f2]; exact nI_m1 (by omega)), inc_e, f2, ix_nI (by omega)]
        simp only [decide_eq_true_eq, nI_eq (show f < 2 ^ 31 by omega) (show e < 2 ^ 31 by omega)]) e he
    have p2 := itr_add (f := fWk D) (a := fun w e => wF D w e) (N := 128) 4 0 (itr (fHd D) 0 6 G) (fun w G e _ hw he => by
      unfold fWk wF
      by_cases q : D (17 + 96 * w + 0) = 0 ∨ D (17 + 96 * w + 1) = 0
      · rw [if_pos q, if_pos q, nI_0, Int32.add_zero]
      · rw [if_neg q, if_neg q]
        obtain ⟨m, m25, m1, m2⟩ := h2 w (by omega) (fun z => q (Or.inl z)) (fun z => q (Or.inr z))
        rw [m1, ix_nI (by omega)]
        have p3 := itr_add (f := fWy D w) (a := fun k e => if decide (D (17 + 96 * w + (18 + 3 * k)) = nI e) = true then 1 else 0) (N := 128) m 0 G (fun i G e _ hi he => by
          unfold fWy
          obtain ⟨f, f1, f2⟩ := m2 i (by omega)
          rw [inc_e, f2, ix_nI (by omega)]
          simp only [decide_eq_true_eq, nI_eq (show f < 2 ^ 31 by omega) (show e < 2 ^ 31 by omega)]) e he
        rw [p3, sm_cnt (fun k => decide (D (17 + 96 * w + (18 + 3 * k)) = nI e))]) e he
    rw [p2, p1, Int32.add_assoc, nI_add, sm_cnt (fun k => decide (D (11 + k) = nI e))]
    rfl
theorem itr_sD0 : ∀ (n k : Nat) (G : RowV) (e : Nat), itr (fun k G => sD G k 0) k n G e = if k ≤ e ∧ e < k + n then 0 else G e
  | 0, k, G, e => by
    rw [if_neg (by omega)]
    rfl
  | n + 1, k, G, e => by
    show itr (fun k G => sD G k 0) (k + 1) n (sD G k 0) e = _
    rw [itr_sD0 n (k + 1) (sD G k 0) e]
    by_cases q : e = k
    · rw [if_neg (by omega), if_pos (by omega), q, sD_s]
    · rw [sD_n _ _ q]
      by_cases q2 : k + 1 ≤ e ∧ e < k + 1 + n
      · rw [if_pos q2, if_pos (by omega)]
      · rw [if_neg q2, if_neg (by omega)]
theorem w_counts {J : MJ} (h : RefL J) (I : MI) (D G : RowV) (c : Int32) (h1 : CHd D) (h2 : CHw D) (h3 : CEd D) (hb : I 188 20 = -1 ∨ ∃ q, q < 128 ∧ I 188 20 = nI q) : ∃ G', M_X10_counts [mR (some 188)] (rF I D G c, J) = some (none, (rF I D G' c, J)) ∧ ∀ e, e < 128 → G' e = nI (eF D e + hF D e + if I 188 20 = nI e then 1 else 0) := by
  obtain ⟨G1, hG1, hG2⟩ := w_countsHands h I D (itr (fEn D) 0 128 (itr (fun k G => sD G k 0) 0 128 G)) c h1 h2
  have r20 : ∀ G, rF I D G c 188 20 = I 188 20 := fun G => rF_k I D G c (by decide)
  have base : ∀ e, e < 128 → G1 e = nI (eF D e + hF D e) := by
    intro e he
    have p2 := itr_add (f := fEn D) (a := fun k e => (if decide (¬ D (701 + 9 * k + 0) = 0 ∧ D (701 + 9 * k + 1) = nI e) = true then 1 else 0) + (if ¬ D (701 + 9 * k + 0) = 0 ∧ ¬ D (701 + 9 * k + 7) = -1 ∧ k = e then 1 else 0)) (N := 128) 128 0 (itr (fun k G => sD G k 0) 0 128 G) (fun i G e _ hi he => by
      unfold fEn
      by_cases q0 : D (701 + 9 * i + 0) = 0
      · rw [if_pos q0, if_neg (by simp only [decide_eq_true_eq]; exact fun z => z.1 q0), if_neg (fun z => z.1 q0), nI_0, Int32.add_zero]
      · rw [if_neg q0]
        have inner : (if D (701 + 9 * i + 1) = -1 then G else inc G (ix (D (701 + 9 * i + 1)))) e = G e + nI (if decide (¬ D (701 + 9 * i + 0) = 0 ∧ D (701 + 9 * i + 1) = nI e) = true then 1 else 0) := by
          rcases h3 i (by omega) q0 with q | ⟨p, p1, p2⟩
          · rw [if_pos q, q, if_neg (by simp only [decide_eq_true_eq]; exact fun z => nI_m1 (show e < 2 ^ 31 by omega) z.2.symm), nI_0, Int32.add_zero]
          · rw [if_neg (by rw [p2]; exact nI_m1 (by omega)), inc_e, p2, ix_nI (by omega)]
            simp only [decide_eq_true_eq, nI_eq (show p < 2 ^ 31 by omega) (show e < 2 ^ 31 by omega), q0, not_false_eq_true, true_and]
        by_cases q7 : D (701 + 9 * i + 7) = -1
        · rw [if_pos q7, inner, if_neg (fun z : ¬ D (701 + 9 * i + 0) = 0 ∧ ¬ D (701 + 9 * i + 7) = -1 ∧ i = e => z.2.1 q7)]
          try rfl
        · rw [if_neg q7, inc_e, inner, Int32.add_assoc, nI_add]
          simp only [q0, q7, not_false_eq_true, true_and]) e he
    rw [hG2 e he, p2, itr_sD0, if_pos (by omega), Int32.zero_add, nI_add, sm_add, sm_cnt (fun k => decide (¬ D (701 + 9 * k + 0) = 0 ∧ D (701 + 9 * k + 1) = nI e)), sm_at (a := fun k => if ¬ D (701 + 9 * k + 0) = 0 ∧ ¬ D (701 + 9 * k + 7) = -1 ∧ k = e then 1 else 0) (e := e) (Nat.zero_le _) (by omega) (fun i _ _ q => if_neg (fun z => q z.2.2))]
    congr 2
    unfold eF
    congr 1
    by_cases q : ¬ D (701 + 9 * e + 0) = 0 ∧ ¬ D (701 + 9 * e + 7) = -1
    · rw [if_pos q, if_pos ⟨q.1, q.2, rfl⟩]
    · rw [if_neg q, if_neg (fun z => q ⟨z.1, z.2.1⟩)]
  have s1 := loop_all (fun k G => Ev T_X10_counts 2 [some (mR (some 188)), some (mI (nI k))] [] (rF I D G c, J)) (fun k G => sD G k 0) 128 G (fun k G hk => by
    try dsimp only
    rw [E_X10_counts_2, if_neg (show ¬ (128 : Int32) ≤ nI k from nI_ge hk (by decide))]
    simp only [h.f19, Option.bind_some]
    rw [h.stG _ _ rfl hk, Option.bind_some, rF_sG, nI_1])
  try dsimp only at s1
  rw [show (nI 0) = 0 from rfl] at s1
  have s2 := loop_all (fun k G => Ev T_X10_counts 24 [some (mR (some 188)), some (mI (nI k))] [] (rF I D G c, J)) (fEn D) 128 (itr (fun k G => sD G k 0) 0 128 G) (fun k G hk => by
    try dsimp only
    rw [E_X10_counts_24, if_neg (show ¬ (128 : Int32) ≤ nI k from nI_ge hk (by decide))]
    simp only [h.kt, if_true, w_its h _ 0 (show (0 : Int32) = nI 0 from rfl) hk (by decide), w_its h _ 1 (show (1 : Int32) = nI 1 from rfl) hk (by decide), w_its h _ 7 (show (7 : Int32) = nI 7 from rfl) hk (by decide), Option.bind_some, asI_I, rF_D, nI_1, h.f19]
    unfold fEn
    by_cases q0 : D (701 + 9 * k + 0) = 0
    · rw [if_pos q0, if_pos q0]
    · rw [if_neg q0, if_neg q0]
      rcases h3 k hk q0 with q | ⟨p, p1, p2⟩
      · rw [if_pos q, if_pos q]
        by_cases q7 : D (701 + 9 * k + 7) = -1
        · rw [if_pos q7, if_pos q7]
        · rw [if_neg q7, if_neg q7, h.ldG _ rfl hk, Option.bind_some, rF_G, h.stG _ _ rfl hk, Option.bind_some, rF_sG]
          rfl
      · have ne : ¬ D (701 + 9 * k + 1) = -1 := by rw [p2]; exact nI_m1 (by omega)
        rw [if_neg ne, if_neg ne, p2, h.ldG _ rfl p1, Option.bind_some, rF_G, h.stG _ _ rfl p1, Option.bind_some, rF_sG]
        simp only [h.kt, if_true, w_its h _ 7 (show (7 : Int32) = nI 7 from rfl) hk (by decide), Option.bind_some, asI_I, rF_D, h.f19]
        rw [ix_nI (by omega)]
        by_cases q7 : D (701 + 9 * k + 7) = -1
        · rw [if_pos q7, if_pos q7]
          rfl
        · rw [if_neg q7, if_neg q7, h.ldG _ rfl hk, Option.bind_some, rF_G, h.stG _ _ rfl hk, Option.bind_some, rF_sG]
          rfl)
  try dsimp only at s2
  rw [show (nI 0) = 0 from rfl] at s2
  have s3 : M_X10_counts [mR (some 188)] (rF I D G c, J) = Ev T_X10_counts 24 [some (mR (some 188)), some (mI (nI 128))] [] (rF I D (itr (fEn D) 0 128 (itr (fun k G => sD G k 0) 0 128 G)) c, J) := by
    rw [E_X10_counts, s1, E_X10_counts_2, if_pos (show (128 : Int32) ≤ nI 128 by decide)]
    exact s2
  rw [s3, E_X10_counts_24, if_pos (show (128 : Int32) ≤ nI 128 by decide)]
  simp only [h.kt, if_true, hG1, Option.bind_some, asV_n, h.fi, r20, h.f19]
  rcases hb with q | ⟨q, q1, q2⟩
  · rw [if_pos q]
    refine ⟨G1, rfl, fun e he => ?_⟩
    rw [base e he, q, if_neg (fun z => nI_m1 (show e < 2 ^ 31 by omega) z.symm), Nat.add_zero]
  · have ne : ¬ I 188 20 = -1 := by rw [q2]; exact nI_m1 (by omega)
    rw [if_neg ne, h.ldG _ q2 q1, Option.bind_some, h.stG _ _ q2 q1, Option.bind_some, rF_sG, rF_G]
    refine ⟨sD G1 q (G1 q + 1), rfl, fun e he => ?_⟩
    have := inc_e G1 q e
    unfold inc at this
    rw [this, base e he, q2, nI_add]
    by_cases z : q = e
    · rw [if_pos z, if_pos (by rw [z])]
    · rw [if_neg z, if_neg (fun y => z ((nI_eq (by omega) (by omega)).mp y))]
end
section
/-! A world of the class beside the row of the reference. The definitions are written by gen/rel.py. -/
/-- nodes, entries, handles -/
def RelB (U : NodV) (V : MemV) (H : OneV) (D : RowV) (n : Nat) : Prop := (D 0 = V 0 12) ∧ (D 1 = V 0 13) ∧ (D 2 = V 0 14) ∧ (D 3 = V 0 11) ∧ (D 4 = U 0 5) ∧ (∀ v, v < 3 → D (5 + v) = V 9 v) ∧ (∀ v, v < 3 → D (8 + v) = V 10 v) ∧ (∀ k, k < 6 → D (11 + k) = H 0 k) ∧ (∀ k, k < n → D (401 + 5 * k + 0) = U 1 k ∧ D (401 + 5 * k + 2) = U 2 k ∧ NmZ (U 3 k) (D (401 + 5 * k + 3)) ∧ D (401 + 5 * k + 4) = (if U 4 k = 0 then 0 else 1) ∧ (¬ U 4 k = 0 → D (401 + 5 * k + 1) = if U 4 k = 2 then 1 else 0)) ∧ (∀ e, e < 128 → D (701 + 9 * e + 0) = if e < 64 ∧ ¬ V 1 e = 0 then 1 else 0) ∧ (∀ e, e < 64 → ¬ V 1 e = 0 → D (701 + 9 * e + 1) = V 2 e ∧ NmZ (V 3 e) (D (701 + 9 * e + 2)) ∧ D (701 + 9 * e + 3) = V 4 e ∧ D (701 + 9 * e + 4) = V 6 e ∧ D (701 + 9 * e + 5) = V 7 e ∧ D (701 + 9 * e + 6) = V 8 e ∧ D (701 + 9 * e + 7) = q_X1_coveringVolume V (nI e) ∧ D (701 + 9 * e + 8) = if V 1 e = 2 then 1 else 0)
theorem RelB.tk {U : NodV} {V : MemV} {H : OneV} {D : RowV} {n : Nat} (h : RelB U V H D n) : D 0 = V 0 12 := h.1
theorem RelB.lo {U : NodV} {V : MemV} {H : OneV} {D : RowV} {n : Nat} (h : RelB U V H D n) : D 1 = V 0 13 := h.2.1
theorem RelB.tr {U : NodV} {V : MemV} {H : OneV} {D : RowV} {n : Nat} (h : RelB U V H D n) : D 2 = V 0 14 := h.2.2.1
theorem RelB.rm {U : NodV} {V : MemV} {H : OneV} {D : RowV} {n : Nat} (h : RelB U V H D n) : D 3 = V 0 11 := h.2.2.2.1
theorem RelB.ev {U : NodV} {V : MemV} {H : OneV} {D : RowV} {n : Nat} (h : RelB U V H D n) : D 4 = U 0 5 := h.2.2.2.2.1
theorem RelB.rt {U : NodV} {V : MemV} {H : OneV} {D : RowV} {n : Nat} (h : RelB U V H D n) : ∀ v, v < 3 → D (5 + v) = V 9 v := h.2.2.2.2.2.1
theorem RelB.ov {U : NodV} {V : MemV} {H : OneV} {D : RowV} {n : Nat} (h : RelB U V H D n) : ∀ v, v < 3 → D (8 + v) = V 10 v := h.2.2.2.2.2.2.1
theorem RelB.ha {U : NodV} {V : MemV} {H : OneV} {D : RowV} {n : Nat} (h : RelB U V H D n) : ∀ k, k < 6 → D (11 + k) = H 0 k := h.2.2.2.2.2.2.2.1
theorem RelB.nd {U : NodV} {V : MemV} {H : OneV} {D : RowV} {n : Nat} (h : RelB U V H D n) : ∀ k, k < n → D (401 + 5 * k + 0) = U 1 k ∧ D (401 + 5 * k + 2) = U 2 k ∧ NmZ (U 3 k) (D (401 + 5 * k + 3)) ∧ D (401 + 5 * k + 4) = (if U 4 k = 0 then 0 else 1) ∧ (¬ U 4 k = 0 → D (401 + 5 * k + 1) = if U 4 k = 2 then 1 else 0) := h.2.2.2.2.2.2.2.2.1
theorem RelB.th {U : NodV} {V : MemV} {H : OneV} {D : RowV} {n : Nat} (h : RelB U V H D n) : ∀ e, e < 128 → D (701 + 9 * e + 0) = if e < 64 ∧ ¬ V 1 e = 0 then 1 else 0 := h.2.2.2.2.2.2.2.2.2.1
theorem RelB.en {U : NodV} {V : MemV} {H : OneV} {D : RowV} {n : Nat} (h : RelB U V H D n) : ∀ e, e < 64 → ¬ V 1 e = 0 → D (701 + 9 * e + 1) = V 2 e ∧ NmZ (V 3 e) (D (701 + 9 * e + 2)) ∧ D (701 + 9 * e + 3) = V 4 e ∧ D (701 + 9 * e + 4) = V 6 e ∧ D (701 + 9 * e + 5) = V 7 e ∧ D (701 + 9 * e + 6) = V 8 e ∧ D (701 + 9 * e + 7) = q_X1_coveringVolume V (nI e) ∧ D (701 + 9 * e + 8) = if V 1 e = 2 then 1 else 0 := h.2.2.2.2.2.2.2.2.2.2
/-- a walker, but for the length of its way -/
def RelK (w : OneV × RouV × TriV) (D : RowV) (k : Nat) : Prop := (D (17 + 96 * k + 0) = bz (w.1 0 5)) ∧ (¬ bz (w.1 0 5) = 0 → D (17 + 96 * k + 1) = bz (w.1 0 6) ∧ D (17 + 96 * k + 2) = w.1 0 7 ∧ D (17 + 96 * k + 3) = w.1 0 8 ∧ D (17 + 96 * k + 4) = w.2.1 0 1) ∧ (¬ bz (w.1 0 5) = 0 → ∀ j, j < 12 → j < ix (w.2.1 0 1) → NmS (w.2.1 1 j) (D (17 + 96 * k + (6 + j)))) ∧ (¬ bz (w.1 0 5) = 0 → ∀ j, j < 25 → j < ix (w.1 0 4) → D (17 + 96 * k + (18 + 3 * j)) = w.2.2 0 j ∧ D (17 + 96 * k + (18 + 3 * j + 1)) = w.2.2 1 j ∧ D (17 + 96 * k + (18 + 3 * j + 2)) = w.2.2 2 j)
theorem RelK.ws {w : OneV × RouV × TriV} {D : RowV} {k : Nat} (h : RelK w D k) : D (17 + 96 * k + 0) = bz (w.1 0 5) := h.1
theorem RelK.un {w : OneV × RouV × TriV} {D : RowV} {k : Nat} (h : RelK w D k) : ¬ bz (w.1 0 5) = 0 → D (17 + 96 * k + 1) = bz (w.1 0 6) ∧ D (17 + 96 * k + 2) = w.1 0 7 ∧ D (17 + 96 * k + 3) = w.1 0 8 ∧ D (17 + 96 * k + 4) = w.2.1 0 1 := h.2.1
theorem RelK.sp {w : OneV × RouV × TriV} {D : RowV} {k : Nat} (h : RelK w D k) : ¬ bz (w.1 0 5) = 0 → ∀ j, j < 12 → j < ix (w.2.1 0 1) → NmS (w.2.1 1 j) (D (17 + 96 * k + (6 + j))) := h.2.2.1
theorem RelK.wy {w : OneV × RouV × TriV} {D : RowV} {k : Nat} (h : RelK w D k) : ¬ bz (w.1 0 5) = 0 → ∀ j, j < 25 → j < ix (w.1 0 4) → D (17 + 96 * k + (18 + 3 * j)) = w.2.2 0 j ∧ D (17 + 96 * k + (18 + 3 * j + 1)) = w.2.2 1 j ∧ D (17 + 96 * k + (18 + 3 * j + 2)) = w.2.2 2 j := h.2.2.2
/-- the walker that goes: what the latest step came to stands in the row already -/
def RelT (w : OneV × RouV × TriV) (V : MemV) (D : RowV) (k m tl : Nat) : Prop := ¬ bz (w.1 0 5) = 0 ∧ w.1 0 4 = nI m ∧ V 0 16 = nI tl ∧ tl ≤ 2 ∧ m + tl ≤ 25 ∧ D (17 + 96 * k + 5) = nI (m + tl) ∧ ∀ j, j < tl → ∃ e, e < 64 ∧ V 11 j = nI e ∧ D (17 + 96 * k + (18 + 3 * (m + j))) = nI e ∧ D (17 + 96 * k + (18 + 3 * (m + j) + 1)) = V 8 e ∧ D (17 + 96 * k + (18 + 3 * (m + j) + 2)) = V 6 e
/-- all -/
def Rel (wk : Option Nat) (U : NodV) (V : MemV) (H : OneV) (W : WkV) (D : RowV) (n : Nat) : Prop := (RelB U V H D n) ∧ (∀ k, k < 4 → RelK (W k) D k) ∧ (∀ k, k < 4 → ¬ bz ((W k).1 0 5) = 0 → wk ≠ some k → D (17 + 96 * k + 5) = (W k).1 0 4 ∧ ∃ r, r ≤ 2 ∧ (W k).1 0 7 = nI r) ∧ (∀ k, wk = some k → k < 4 ∧ ∃ m tl, RelT (W k) V D k m tl)
theorem Rel.B {wk : Option Nat} {U : NodV} {V : MemV} {H : OneV} {W : WkV} {D : RowV} {n : Nat} (h : Rel wk U V H W D n) : RelB U V H D n := h.1
theorem Rel.K {wk : Option Nat} {U : NodV} {V : MemV} {H : OneV} {W : WkV} {D : RowV} {n : Nat} (h : Rel wk U V H W D n) : ∀ k, k < 4 → RelK (W k) D k := h.2.1
theorem Rel.M {wk : Option Nat} {U : NodV} {V : MemV} {H : OneV} {W : WkV} {D : RowV} {n : Nat} (h : Rel wk U V H W D n) : ∀ k, k < 4 → ¬ bz ((W k).1 0 5) = 0 → wk ≠ some k → D (17 + 96 * k + 5) = (W k).1 0 4 := fun k a b c => (h.2.2.1 k a b c).1
theorem Rel.R2 {wk : Option Nat} {U : NodV} {V : MemV} {H : OneV} {W : WkV} {D : RowV} {n : Nat} (h : Rel wk U V H W D n) : ∀ k, k < 4 → ¬ bz ((W k).1 0 5) = 0 → wk ≠ some k → ∃ r, r ≤ 2 ∧ (W k).1 0 7 = nI r := fun k a b c => (h.2.2.1 k a b c).2
theorem Rel.T {wk : Option Nat} {U : NodV} {V : MemV} {H : OneV} {W : WkV} {D : RowV} {n : Nat} (h : Rel wk U V H W D n) : ∀ k, wk = some k → k < 4 ∧ ∃ m tl, RelT (W k) V D k m tl := h.2.2.2
def pnd (wk : Option Nat) (V : MemV) (W : WkV) (e : Nat) : Nat := match wk with
  | none => 0
  | some k => if bz ((W k).1 0 6) = 0 then 0 else cnt (fun j => decide (V 11 j = nI e)) 0 (ix (V 0 16))
theorem Rel.ch {wk : Option Nat} {U : NodV} {V : MemV} {H : OneV} {W : WkV} {D : RowV} {n vol t T : Nat} {x : Nat → Nat} (r : Rel wk U V H W D n) (i : Inv U V H W n vol t T x) : CHd D ∧ CHw D ∧ CEd D := by
  refine ⟨fun k hk => ?_, fun w hw q0 q1 => ?_, fun k hk q0 => ?_⟩
  · rw [r.B.ha k hk]
    rcases i.H k hk with z | ⟨e, e1, e2, _⟩
    · exact Or.inl z
    · exact Or.inr ⟨e, by omega, e2⟩
  · have hk := r.K w hw
    rw [hk.ws] at q0
    rw [(hk.un q0).1] at q1
    obtain ⟨m, d, l, rr, _, hw2⟩ := i.W w hw q0
    have m25 : m ≤ 25 := by
      have := hw2.md
      have := hw2.dl
      have := hw2.l12
      omega
    have old : ∀ k, k < m → ∃ e, e < 128 ∧ D (17 + 96 * w + (18 + 3 * k)) = nI e := by
      intro k hk2
      obtain ⟨e, e1, e2, _⟩ := (hw2.wy k hk2).ex
      exact ⟨e, by omega, by rw [((hk.wy q0) k (by omega) (by rw [hw2.m, ix_nI (by omega)]; exact hk2)).1]; exact e2⟩
    by_cases z : wk = some w
    · obtain ⟨_, m', tl, t1, t2, t3, t4, t5, t6, t7⟩ := r.T w z
      have mm : m' = m := (nI_eq (by omega) (by omega)).mp (t2.symm.trans hw2.m)
      subst mm
      refine ⟨m' + tl, t5, t6, fun k hk2 => ?_⟩
      by_cases c : k < m'
      · exact old k c
      · obtain ⟨e, e1, e2, e3, _⟩ := t7 (k - m') (by omega)
        rw [show m' + (k - m') = k by omega] at e3
        exact ⟨e, by omega, e3⟩
    · exact ⟨m, m25, by rw [r.M w hw q0 z]; exact hw2.m, old⟩
  · rw [r.B.th k hk] at q0
    by_cases c : k < 64 ∧ ¬ V 1 k = 0
    · rw [(r.B.en k c.1 c.2).1]
      rcases i.M.st k c.1 with z | z | z
      · exact absurd z c.2
      · by_cases y : V 2 k = -1
        · exact Or.inl y
        · obtain ⟨p, p1, p2, _⟩ := i.M.ch k c.1 z y
          exact Or.inr ⟨p, by omega, p2⟩
      · exact Or.inl (i.M.go k c.1 z).1
    · rw [if_neg c] at q0
      exact absurd rfl q0
theorem Rel.eqe {wk : Option Nat} {U : NodV} {V : MemV} {H : OneV} {W : WkV} {D : RowV} {n vol t T : Nat} {x : Nat → Nat} (r : Rel wk U V H W D n) (i : Inv U V H W n vol t T x) {e : Nat} (he : e < 64) (h1 : ¬ V 1 e = 0) : eF D e = hcC V e + hcV V e := by
  unfold eF hcC
  have c1 : cnt (fun k => decide (¬ D (701 + 9 * k + 0) = 0 ∧ D (701 + 9 * k + 1) = nI e)) 0 128 = cnt (fun k => decide (¬ V 1 k = 0 ∧ V 2 k = nI e)) 0 64 := by
    rw [show (128 : Nat) = 64 + 64 from rfl, cnt_add, cnt_zero (k := 0 + 64) (fun k h1 h2 => by
      rw [r.B.th k (by omega), if_neg (by omega)]
      simp)]
    rw [Nat.add_zero]
    refine cnt_cong (fun k _ hk => ?_)
    rw [r.B.th k (by omega)]
    by_cases q : V 1 k = 0
    · simp [q]
    · rw [if_pos ⟨by omega, q⟩, (r.B.en k (by omega) q).1]
      simp [q]
  have t1 : (if e < 64 ∧ ¬ V 1 e = 0 then (1 : Int32) else 0) = 1 := if_pos ⟨he, h1⟩
  rw [c1, r.B.th e (by omega), t1, (r.B.en e he h1).2.2.2.2.2.2.1]
  have key : (if ¬ (1 : Int32) = 0 ∧ ¬ q_X1_coveringVolume V (nI e) = -1 then 1 else 0) = hcV V e := by
    have ne : ¬ nI e = -1 := nI_m1 (by omega)
    unfold q_X1_coveringVolume ql_X1_coveringVolume hcV
    have fe : f_X1_coveringVolume V (nI e) = fst? (fun v => decide (V 10 v = nI e)) 0 3 := by
      unfold f_X1_coveringVolume
      refine fst_cong (fun k _ _ => ?_)
      rw [if_neg ne]
      by_cases z : V 10 k = nI e
      · simp [z]
      · simp [z]
    rw [fe]
    cases q : fst? (fun v => decide (V 10 v = nI e)) 0 3 with
    | none =>
      have := fst_none q
      rw [cnt_zero (fun i a b => this i a b), if_neg (fun z => z.2 rfl)]
    | some v =>
      obtain ⟨_, v3, v4, _⟩ := fst_some q
      have v4 : V 10 v = nI e := by simpa using v4
      rw [if_pos ⟨i10, nI_m1 (by omega)⟩, ← sm_cnt, sm_at (e := v) (Nat.zero_le _) v3 (fun k _ hk hne => if_neg (by
        simp only [decide_eq_true_eq]
        intro z
        exact hne (i.M.oi k v (by omega) (by omega) (by rw [z]; exact ne) (z.trans v4.symm))))]
      simp [v4]
  rw [key]
theorem cnt_shift (P : Nat → Bool) (j : Nat) : ∀ n k, cnt P (j + k) n = cnt (fun i => P (j + i)) k n
  | 0, k => rfl
  | n + 1, k => by
    unfold cnt
    rw [show j + k + 1 = j + (k + 1) by omega, cnt_shift P j n (k + 1)]
theorem Rel.eqw {wk : Option Nat} {U : NodV} {V : MemV} {H : OneV} {W : WkV} {D : RowV} {n vol t T : Nat} {x : Nat → Nat} (r : Rel wk U V H W D n) (i : Inv U V H W n vol t T x) (e : Nat) {w : Nat} (hw : w < 4) : wF D w e = hcK (W w) e + if wk = some w then pnd wk V W e else 0 := by
  have hk := r.K w hw
  unfold wF hcK
  rw [hk.ws]
  by_cases q0 : bz ((W w).1 0 5) = 0
  · rw [if_pos (Or.inl q0), if_pos (Or.inl q0)]
    by_cases z : wk = some w
    · exact absurd q0 (by obtain ⟨_, m, tl, t1, _⟩ := r.T w z; exact t1)
    · rw [if_neg z]
  · rw [(hk.un q0).1]
    by_cases q1 : bz ((W w).1 0 6) = 0
    · rw [if_pos (Or.inr q1), if_pos (Or.inr q1)]
      by_cases z : wk = some w
      · rw [if_pos z]
        unfold pnd
        rw [z]
        show 0 = 0 + if bz ((W w).1 0 6) = 0 then 0 else _
        rw [if_pos q1]
      · rw [if_neg z]
    · rw [if_neg (fun z => z.elim q0 q1), if_neg (fun z => z.elim q0 q1)]
      obtain ⟨m, d, l, rr, _, hw2⟩ := i.W w hw q0
      have m25 : m ≤ 25 := by
        have := hw2.md
        have := hw2.dl
        have := hw2.l12
        omega
      have old : cnt (fun k => decide (D (17 + 96 * w + (18 + 3 * k)) = nI e)) 0 m = cnt (fun k => decide ((W w).2.2 0 k = nI e)) 0 m :=
        cnt_cong (fun k _ hk2 => by rw [((hk.wy q0) k (by omega) (by rw [hw2.m, ix_nI (by omega)]; omega)).1])
      rw [hw2.m, ix_nI (by omega)]
      by_cases z : wk = some w
      · obtain ⟨_, m', tl, t1, t2, t3, t4, t5, t6, t7⟩ := r.T w z
        have mm : m' = m := (nI_eq (by omega) (by omega)).mp (t2.symm.trans hw2.m)
        subst mm
        rw [t6, ix_nI (by omega), cnt_add, old, if_pos z]
        unfold pnd
        rw [z]
        show _ = _ + if bz ((W w).1 0 6) = 0 then 0 else _
        rw [if_neg q1, t3, ix_nI (by omega), show (0 : Nat) + m' = m' + 0 by omega, cnt_shift]
        congr 1
        refine cnt_cong (fun j _ hj => ?_)
        obtain ⟨f, f1, f2, f3, _⟩ := t7 j (by omega)
        rw [f3, f2]
      · rw [r.M w hw q0 z, hw2.m, ix_nI (by omega), old, if_neg z]
        rfl
theorem Rel.eqh {wk : Option Nat} {U : NodV} {V : MemV} {H : OneV} {W : WkV} {D : RowV} {n vol t T : Nat} {x : Nat → Nat} (r : Rel wk U V H W D n) (i : Inv U V H W n vol t T x) (e : Nat) : hF D e = hcH H e + hcW W e + pnd wk V W e := by
  unfold hF hcH hcW
  rw [cnt_cong (P := fun k => decide (D (11 + k) = nI e)) (P' := fun k => decide (H 0 k = nI e)) (fun k _ hk => by rw [r.B.ha k (by omega)]), sm_cong (a := fun w => wF D w e) (b := fun w => hcK (W w) e + if wk = some w then pnd wk V W e else 0) (fun w _ hw => r.eqw i e (by omega)), sm_add]
  rw [Nat.add_assoc]
  congr 2
  cases wk with
  | none =>
    refine sm_zero (fun k _ _ => ?_)
    rw [if_neg (fun z => by cases z)]
  | some k =>
    rw [sm_at (e := k) (Nat.zero_le _) (by have := (r.T k rfl).1; omega) (fun j _ _ hne => if_neg (fun z => hne (by cases z; rfl))), if_pos rfl]
/-- what rename holds meanwhile -/
def HB (y : Int32) (x : Nat → Nat) : Prop := (y = -1 ∧ ∀ e, x e = 0) ∨ ∃ q, q < 64 ∧ y = nI q ∧ ∀ e, x e = if e = q then 1 else 0
theorem Rel.counts {wk : Option Nat} {U : NodV} {V : MemV} {H : OneV} {W : WkV} {D : RowV} {n vol t T : Nat} {x : Nat → Nat} (r : Rel wk U V H W D n) (i : Inv U V H W n vol t T x) {J : MJ} (h : RefL J) (I : MI) (hb : HB (I 188 20) x) (G : RowV) (c : Int32) : ∃ G', M_X10_counts [mR (some 188)] (rF I D G c, J) = some (none, (rF I D G' c, J)) ∧ ∀ e, e < 64 → ¬ V 1 e = 0 → G' e = nI (hc V H W e + x e + pnd wk V W e) := by
  obtain ⟨c1, c2, c3⟩ := r.ch i
  obtain ⟨G', g1, g2⟩ := w_counts h I D G c c1 c2 c3 (by
    rcases hb with ⟨z, _⟩ | ⟨q, q1, q2, _⟩
    · exact Or.inl z
    · exact Or.inr ⟨q, by omega, q2⟩)
  refine ⟨G', g1, fun e he q => ?_⟩
  rw [g2 e (by omega), r.eqe i he q, r.eqh i e]
  have hx : (if I 188 20 = nI e then 1 else 0) = x e := by
    rcases hb with ⟨z, z2⟩ | ⟨q, q1, q2, q3⟩
    · rw [z, z2, if_neg (fun y => nI_m1 (show e < 2 ^ 31 by omega) y.symm)]
    · rw [q2, q3]
      by_cases y : e = q
      · rw [if_pos y, if_pos (by rw [y])]
      · rw [if_neg y, if_neg (fun z => y ((nI_eq (by omega) (by omega)).mp z).symm)]
  rw [hx]
  have hs : hcC V e + hcV V e + (hcH H e + hcW W e + pnd wk V W e) + x e = hc V H W e + x e + pnd wk V W e := by
    unfold hc
    omega
  rw [hs]
end
section
/-! The longest unused entry on both sides; some are trimmed. -/
theorem RelB.th1 {U : NodV} {V : MemV} {H : OneV} {D : RowV} {n : Nat} (b : RelB U V H D n) {e : Nat} (he : e < 64) (h : ¬ V 1 e = 0) : D (701 + 9 * e + 0) = 1 := by
  rw [b.th e (by omega), if_pos ⟨he, h⟩]
theorem RelB.th0 {U : NodV} {V : MemV} {H : OneV} {D : RowV} {n : Nat} (b : RelB U V H D n) {e : Nat} (he : e < 128) (h : e < 64 → V 1 e = 0) : D (701 + 9 * e + 0) = 0 := by
  rw [b.th e he, if_neg (fun z => z.2 (h z.1))]
theorem Rel.eqr {wk : Option Nat} {U : NodV} {V : MemV} {H : OneV} {W : WkV} {D : RowV} {n : Nat} (r : Rel wk U V H W D n) (y : Int32) : rtB D y = true ↔ ∃ v, v < 3 ∧ V 9 v = y := by
  unfold rtB rootQ
  constructor
  · intro h
    cases q : fst? (fun v => decide (D (5 + v) = y)) 0 3 with
    | none => rw [q] at h; cases h
    | some v =>
      obtain ⟨_, v3, v4, _⟩ := fst_some q
      have v4 : D (5 + v) = y := by simpa using v4
      exact ⟨v, by omega, by rw [← r.B.rt v (by omega)]; exact v4⟩
  · rintro ⟨v, v3, h⟩
    cases q : fst? (fun v => decide (D (5 + v) = y)) 0 3 with
    | none =>
      have := fst_none q v (Nat.zero_le _) (by omega)
      rw [r.B.rt v v3, h] at this
      simp at this
    | some v => rfl
/-- what may go -/
def Fre (V : MemV) (but : Int32) (k : Nat) : Prop := V 1 k = 1 ∧ V 5 k = 0 ∧ ¬ V 2 k = -1 ∧ ¬ nI k = but
theorem lu_s (V : MemV) (x1 : Int32) (nn k : Nat) (x2 x3 : Int32) : lp_X1_longestUnused_7 V x1 (nn + 1) k x2 x3 = (if (V 1 k) = 1 then (if (V 5 k) = 0 then (if (V 2 k) = ((-1)) then lp_X1_longestUnused_7 V x1 nn (k + 1) x2 x3 else (if (nI k) = x1 then lp_X1_longestUnused_7 V x1 nn (k + 1) x2 x3 else (if x2 = ((-1)) then lp_X1_longestUnused_7 V x1 nn (k + 1) (nI k) (V 7 k) else (if x3 ≤ (V 7 k) then lp_X1_longestUnused_7 V x1 nn (k + 1) x2 x3 else lp_X1_longestUnused_7 V x1 nn (k + 1) (nI k) (V 7 k))))) else lp_X1_longestUnused_7 V x1 nn (k + 1) x2 x3) else lp_X1_longestUnused_7 V x1 nn (k + 1) x2 x3) := rfl
def LuP (V : MemV) (but : Int32) (nn k : Nat) (x2 y : Int32) : Prop := (y = -1 ∨ ∃ q, q < 64 ∧ y = nI q ∧ Fre V but q) ∧ (y = -1 → x2 = -1 ∧ ∀ j, k ≤ j → j < k + nn → ¬ Fre V but j)
theorem lu_free (V : MemV) (but : Int32) : ∀ (nn k : Nat) (x2 x3 : Int32), k + nn ≤ 64 → (x2 = -1 ∨ ∃ q, q < 64 ∧ x2 = nI q ∧ Fre V but q) → LuP V but nn k x2 (lp_X1_longestUnused_7 V but nn k x2 x3)
  | 0, k, x2, x3, _, h => ⟨h, fun q => ⟨q, fun j h1 h2 => by omega⟩⟩
  | nn + 1, k, x2, x3, hk, h => by
    have skip : ¬ Fre V but k → lp_X1_longestUnused_7 V but (nn + 1) k x2 x3 = lp_X1_longestUnused_7 V but nn (k + 1) x2 x3 → LuP V but (nn + 1) k x2 (lp_X1_longestUnused_7 V but (nn + 1) k x2 x3) := fun nf eq => by
      have ih := lu_free V but nn (k + 1) x2 x3 (by omega) h
      rw [eq]
      refine ⟨ih.1, fun q => ⟨(ih.2 q).1, fun j h1 h2 => ?_⟩⟩
      by_cases c : j = k
      · rw [c]; exact nf
      · exact (ih.2 q).2 j (by omega) (by omega)
    by_cases a : V 1 k = 1
    · by_cases b : V 5 k = 0
      · by_cases c : V 2 k = -1
        · exact skip (fun z => z.2.2.1 c) (by rw [lu_s, if_pos a, if_pos b, if_pos c])
        · by_cases d : nI k = but
          · exact skip (fun z => z.2.2.2 d) (by rw [lu_s, if_pos a, if_pos b, if_neg c, if_pos d])
          · have fr : Fre V but k := ⟨a, b, c, d⟩
            have ih := lu_free V but nn (k + 1) (nI k) (V 7 k) (by omega) (Or.inr ⟨k, by omega, rfl, fr⟩)
            have no : ¬ nI k = -1 := nI_m1 (by omega)
            rw [lu_s, if_pos a, if_pos b, if_neg c, if_neg d]
            by_cases e : x2 = -1
            · rw [if_pos e]
              exact ⟨ih.1, fun q => absurd (ih.2 q).1 no⟩
            · rw [if_neg e]
              by_cases f : x3 ≤ V 7 k
              · rw [if_pos f]
                have ih2 := lu_free V but nn (k + 1) x2 x3 (by omega) h
                exact ⟨ih2.1, fun q => absurd (ih2.2 q).1 e⟩
              · rw [if_neg f]
                exact ⟨ih.1, fun q => absurd (ih.2 q).1 no⟩
      · exact skip (fun z => b z.2.1) (by rw [lu_s, if_pos a, if_neg b])
    · exact skip (fun z => a z.1) (by rw [lu_s, if_neg a])
theorem lu_q (V : MemV) (but : Int32) : (q_X1_longestUnused V but = -1 ∧ ∀ j, j < 64 → ¬ Fre V but j) ∨ ∃ q, q < 64 ∧ q_X1_longestUnused V but = nI q ∧ Fre V but q := by
  have := lu_free V but 64 0 (-1) 0 (by omega) (Or.inl rfl)
  rcases this.1 with q | q
  · exact Or.inl ⟨q, fun j hj => (this.2 q).2 j (Nat.zero_le _) (by omega)⟩
  · exact Or.inr q
theorem Inv.hz {U : NodV} {V : MemV} {H : OneV} {W : WkV} {n vol t T : Nat} {x : Nat → Nat} (i : Inv U V H W n vol t T x) {e : Nat} (he : e < 64) (h1 : ¬ V 1 e = 0) : V 5 e = 0 ↔ hc V H W e = 0 ∧ x e = 0 := by
  have hL := i.L e he
  have hl := i.hle e
  rw [(hL.2.2 h1).1]
  constructor
  · intro q
    have : hc V H W e + x e = 0 := (nI_eq (by omega) (by omega)).mp (q.trans nI_0.symm)
    omega
  · intro q
    rw [q.1, q.2]
    rfl
theorem Rel.leastFree {wk : Option Nat} {U : NodV} {V : MemV} {H : OneV} {W : WkV} {D : RowV} {n vol t T : Nat} {x : Nat → Nat} (r : Rel wk U V H W D n) (i : Inv U V H W n vol t T x) {J : MJ} (h : RefL J) (I : MI) (hb : HB (I 188 20) x) (G : RowV) (c : Int32) (but : Int32) (hp : ∀ e, e < 64 → ¬ nI e = but → pnd wk V W e = 0) : ∃ G', M_X10_leastFree [mR (some 188), mI but] (rF I D G c, J) = some (some (mI (q_X1_longestUnused V but)), (rF I D G' c, J)) := by
  obtain ⟨G', g1, g2⟩ := r.counts i h I hb G c
  refine ⟨G', ?_⟩
  rw [E_X10_leastFree]
  simp only [h.kt, if_true, g1, Option.bind_some, asV_n]
  have first : ∀ (nn k : Nat) (x2 x3 : Int32), k + nn = 64 → (x2 = -1 ∨ ∃ q, q < 64 ∧ x2 = nI q ∧ ¬ V 1 q = 0 ∧ x3 = V 7 q) → Ev T_X10_leastFree 8 [some (mR (some 188)), some (mI but), some (mI x2), some (mI (nI k))] [] (rF I D G' c, J) = Ev T_X10_leastFree 8 [some (mR (some 188)), some (mI but), some (mI (lp_X1_longestUnused_7 V but nn k x2 x3)), some (mI (nI 64))] [] (rF I D G' c, J) := by
    intro nn
    induction nn with
    | zero =>
      intro k x2 x3 hk _
      have : k = 64 := by omega
      subst this
      rfl
    | succ nn ih =>
      intro k x2 x3 hk hx
      have hk64 : k < 64 := by omega
      rw [E_X10_leastFree_8, if_neg (show ¬ (128 : Int32) ≤ nI k from nI_ge (b := 128) (by omega) (by decide))]
      simp only [h.kt, if_true, w_its h _ 0 (show (0 : Int32) = nI 0 from rfl) (show k < 128 by omega) (by decide), w_its h _ 5 (show (5 : Int32) = nI 5 from rfl) (show k < 128 by omega) (by decide), w_isRootB h, h.f19, h.ldG _ rfl (show k < 128 by omega), Option.bind_some, asI_I, rF_D, rF_G, nI_1]
      rw [lu_s]
      rcases i.M.st k hk64 with s | s | s
      · rw [r.B.th0 (by omega) (fun _ => s), if_pos rfl, if_neg (by rw [s]; exact i01)]
        exact ih (k + 1) x2 x3 (by omega) hx
      · have s0 : ¬ V 1 k = 0 := by rw [s]; exact i10
        rw [r.B.th1 hk64 s0, if_neg i10, if_pos s]
        have nx := ih (k + 1) x2 x3 (by omega) hx
        by_cases b : nI k = but
        · rw [if_pos b]
          by_cases v5 : V 5 k = 0
          · rw [if_pos v5]
            by_cases v2 : V 2 k = -1
            · rw [if_pos v2]; exact nx
            · rw [if_neg v2, if_pos b]; exact nx
          · rw [if_neg v5]; exact nx
        · rw [if_neg b, g2 k hk64 s0, hp k hk64 b, Nat.add_zero]
          have hl := i.hle k
          have hL := i.L k hk64
          by_cases v5 : V 5 k = 0
          · have z := (i.hz hk64 s0).mp v5
            rw [z.1, z.2, if_neg (show ¬ (0 : Int32) < nI (0 + 0) by decide), if_pos v5]
            by_cases v2 : V 2 k = -1
            · obtain ⟨v, v3, v4⟩ := i.M.ro k hk64 s v2
              rw [if_pos v2, if_pos ((r.eqr (nI k)).mpr ⟨v, v3, v4⟩), if_neg i10]
              exact nx
            · have nr : ¬ rtB D (nI k) = true := by
                rw [r.eqr]
                rintro ⟨v, v3, v4⟩
                rcases i.M.rt v v3 with ⟨y, _⟩ | ⟨_, q, q64, y1, y2, y3, _⟩
                · rw [y] at v4
                  exact nI_m1 (show k < 2 ^ 31 by omega) v4.symm
                · have : q = k := (nI_eq (by omega) (by omega)).mp (y1.symm.trans v4)
                  rw [this] at y3
                  exact v2 y3
              rw [if_neg nr, if_pos rfl, if_neg v2, if_neg b]
              have nk := ih (k + 1) (nI k) (V 7 k) (by omega) (Or.inr ⟨k, hk64, rfl, s0, rfl⟩)
              by_cases a : x2 = -1
              · rw [if_pos a, if_pos a]
                exact nk
              · rw [if_neg a, if_neg a]
                rcases hx with hx | ⟨q, q1, q2, q3, q4⟩
                · exact absurd hx a
                · subst q2 q4
                  simp only [w_its h _ 5 (show (5 : Int32) = nI 5 from rfl) (show q < 128 by omega) (by decide), Option.bind_some, asI_I, rF_D]
                  rw [(r.B.en q q1 q3).2.2.2.2.1, (r.B.en k hk64 s0).2.2.2.2.1]
                  by_cases f : V 7 q ≤ V 7 k
                  · rw [if_pos f, if_pos f]; exact nx
                  · rw [if_neg f, if_neg f]; exact nk
          · have z : 0 < hc V H W k + x k := by
              rcases Nat.eq_zero_or_pos (hc V H W k + x k) with y | y
              · exact absurd ((i.hz hk64 s0).mpr (by omega)) v5
              · exact y
            rw [if_pos (show (0 : Int32) < nI (hc V H W k + x k) by rw [← nI_0]; exact nI_lt z (by omega)), if_neg v5]
            exact nx
      · have s0 : ¬ V 1 k = 0 := by rw [s]; exact i20
        have nx := ih (k + 1) x2 x3 (by omega) hx
        rw [r.B.th1 hk64 s0, if_neg i10, if_neg (show ¬ V 1 k = 1 by rw [s]; decide)]
        by_cases b : nI k = but
        · rw [if_pos b]; exact nx
        · have hl := i.hle k
          have hL := (i.L k hk64)
          have z := (hL.2.2 s0).2 s
          rw [if_neg b, g2 k hk64 s0, hp k hk64 b, Nat.add_zero, if_pos (show (0 : Int32) < nI (hc V H W k + x k) by rw [← nI_0]; exact nI_lt z (by omega))]
          exact nx
  have second : ∀ (nn k : Nat) (x2 : Int32), 64 ≤ k → k + nn = 128 → Ev T_X10_leastFree 8 [some (mR (some 188)), some (mI but), some (mI x2), some (mI (nI k))] [] (rF I D G' c, J) = some (some (mI x2), (rF I D G' c, J)) := by
    intro nn
    induction nn with
    | zero =>
      intro k x2 _ hk
      have : k = 128 := by omega
      subst this
      rw [E_X10_leastFree_8, if_pos (show (128 : Int32) ≤ nI 128 by decide)]
    | succ nn ih =>
      intro k x2 h64 hk
      rw [E_X10_leastFree_8, if_neg (show ¬ (128 : Int32) ≤ nI k from nI_ge (b := 128) (by omega) (by decide))]
      simp only [h.kt, if_true, w_its h _ 0 (show (0 : Int32) = nI 0 from rfl) (show k < 128 by omega) (by decide), Option.bind_some, asI_I, rF_D, nI_1]
      rw [r.B.th0 (by omega) (fun z => by omega), if_pos rfl]
      exact ih (k + 1) x2 (by omega) (by omega)
  have f := first 64 0 (-1) 0 (by omega) (Or.inl rfl)
  rw [show (nI 0) = 0 from rfl] at f
  rw [f, second 64 64 _ (Nat.le_refl _) (by omega)]
  rfl
theorem cov_fr {V V' : MemV} (h : V' 10 = V 10) (y : Int32) : q_X1_coveringVolume V' y = q_X1_coveringVolume V y := by
  unfold q_X1_coveringVolume ql_X1_coveringVolume f_X1_coveringVolume
  rw [h]
/-- the walkers' part, where nothing of it changes -/
theorem Rel.fr {wk : Option Nat} {U U' : NodV} {V V' : MemV} {H H' : OneV} {W : WkV} {D D' : RowV} {n n' : Nat} (r : Rel wk U V H W D n) (b : RelB U' V' H' D' n') (hd : ∀ i, 17 ≤ i → i < 401 → D' i = D i) (ht : ∀ k, wk = some k → V' 0 16 = V 0 16 ∧ V' 11 = V 11 ∧ ∀ e m tl j, RelT (W k) V D k m tl → j < tl → V 11 j = nI e → e < 64 → V' 8 e = V 8 e ∧ V' 6 e = V 6 e) : Rel wk U' V' H' W D' n' := by
  refine ⟨b, fun k hk => ?_, fun k hk q1 q2 => ?_, fun k hk => ?_⟩
  · have a := r.K k hk
    refine ⟨?_, fun q => ?_, fun q j h1 h2 => ?_, fun q j h1 h2 => ?_⟩
    · rw [hd _ (by omega) (by omega)]; exact a.ws
    · rw [hd _ (by omega) (by omega), hd _ (by omega) (by omega), hd _ (by omega) (by omega), hd _ (by omega) (by omega)]
      exact a.un q
    · rw [hd _ (by omega) (by omega)]
      exact a.sp q j h1 h2
    · rw [hd _ (by omega) (by omega), hd _ (by omega) (by omega), hd _ (by omega) (by omega)]
      exact a.wy q j h1 h2
  · exact ⟨by rw [hd _ (by omega) (by omega)]; exact r.M k hk q1 q2, r.R2 k hk q1 q2⟩
  · obtain ⟨k4, m, tl, hT⟩ := r.T k hk
    obtain ⟨y1, y2, y3⟩ := ht k hk
    refine ⟨k4, m, tl, hT.1, hT.2.1, ?_, hT.2.2.2.1, hT.2.2.2.2.1, ?_, fun j hj => ?_⟩
    · rw [y1]; exact hT.2.2.1
    · rw [hd _ (by omega) (by omega)]; exact hT.2.2.2.2.2.1
    · obtain ⟨e, e1, e2, e3, e4, e5⟩ := hT.2.2.2.2.2.2 j hj
      have b1 := hT.2.2.2.2.1
      have z := y3 e m tl j hT hj e2 e1
      refine ⟨e, e1, ?_, ?_, ?_, ?_⟩
      · rw [y2]; exact e2
      · rw [hd _ (by omega) (by omega)]; exact e3
      · rw [hd _ (by omega) (by omega), z.1]; exact e4
      · rw [hd _ (by omega) (by omega), z.2]; exact e5
def trV (V : MemV) (e : Nat) : MemV := uv (gV_X1_drop V (nI e)) 0 14 ((gV_X1_drop V (nI e)) 0 14 + 1)
def trD (D : RowV) (e : Nat) : RowV := sD (sD D (701 + 9 * e + 0) 0) 2 (D 2 + 1)
theorem trV_k (V : MemV) (e : Nat) (r : Fin 12) (h0 : r ≠ 0) (h1 : r ≠ 1) (h5 : r ≠ 5) : trV V e r = V r := by
  unfold trV
  rw [uv_k _ _ _ _ _ h0, dr_k _ _ _ h1 h5]
theorem trV_1 (V : MemV) {e : Nat} (he : e < 64) (j : Nat) : trV V e 1 j = if j = e then 0 else V 1 j := by
  unfold trV
  rw [uv_k _ _ _ _ _ (by decide), dr_1 V he]
theorem trV_0 (V : MemV) (e k : Nat) (h : k ≠ 14) : trV V e 0 k = V 0 k := by
  unfold trV
  rw [uv_n _ _ _ _ _ _ (fun q => h q.2), dr_k _ _ _ (by decide) (by decide)]
theorem trV_14 (V : MemV) (e : Nat) : trV V e 0 14 = V 0 14 + 1 := by
  unfold trV
  rw [uv_s, dr_k _ _ _ (by decide) (by decide)]
theorem Rel.trd {wk : Option Nat} {U : NodV} {V : MemV} {H : OneV} {W : WkV} {D : RowV} {n : Nat} (r : Rel wk U V H W D n) (n60 : n ≤ 60) {e : Nat} (he : e < 64) : Rel wk U (trV V e) H W (trD D e) n := by
  have o : ∀ i, i ≠ 2 → i ≠ 701 + 9 * e + 0 → trD D e i = D i := fun i h1 h2 => by
    unfold trD
    rw [sD_n _ _ h1, sD_n _ _ h2]
  have k := trV_k V e
  have b := r.B
  refine r.fr ⟨?_, ?_, ?_, ?_, ?_, ?_, ?_, ?_, ?_, ?_, ?_⟩ (fun i h1 h2 => o i (by omega) (by omega)) (fun _ _ => ⟨trV_0 V e _ (by decide), k 11 (by decide) (by decide) (by decide), fun f _ _ _ _ _ _ _ => ⟨by rw [k 8 (by decide) (by decide) (by decide)], by rw [k 6 (by decide) (by decide) (by decide)]⟩⟩)
  · rw [o 0 (by decide) (by omega), trV_0 V e _ (by decide)]; exact b.tk
  · rw [o 1 (by decide) (by omega), trV_0 V e _ (by decide)]; exact b.lo
  · rw [trV_14, ← b.tr]
    unfold trD
    rw [sD_s]
  · rw [o 3 (by decide) (by omega), trV_0 V e _ (by decide)]; exact b.rm
  · rw [o 4 (by decide) (by omega)]; exact b.ev
  · intro v hv
    rw [o _ (by omega) (by omega), k 9 (by decide) (by decide) (by decide)]; exact b.rt v hv
  · intro v hv
    rw [o _ (by omega) (by omega), k 10 (by decide) (by decide) (by decide)]; exact b.ov v hv
  · intro v hv
    rw [o _ (by omega) (by omega)]; exact b.ha v hv
  · intro j hj
    rw [o _ (by omega) (by omega), o _ (by omega) (by omega), o _ (by omega) (by omega), o _ (by omega) (by omega), o _ (by omega) (by omega)]
    exact b.nd j hj
  · intro f hf
    rw [trV_1 V he]
    by_cases q : f = e
    · subst q
      rw [if_pos rfl, if_neg (fun z => z.2 rfl)]
      unfold trD
      rw [sD_n _ _ (by omega), sD_s]
    · rw [if_neg q, o _ (by omega) (by omega)]
      exact b.th f hf
  · intro f hf q
    rw [trV_1 V he] at q
    by_cases z : f = e
    · rw [if_pos z] at q
      exact absurd rfl q
    · rw [if_neg z] at q
      rw [o _ (by omega) (by omega), o _ (by omega) (by omega), o _ (by omega) (by omega), o _ (by omega) (by omega), o _ (by omega) (by omega), o _ (by omega) (by omega), o _ (by omega) (by omega), o _ (by omega) (by omega), k 2 (by decide) (by decide) (by decide), k 3 (by decide) (by decide) (by decide), k 4 (by decide) (by decide) (by decide), k 6 (by decide) (by decide) (by decide), k 7 (by decide) (by decide) (by decide), k 8 (by decide) (by decide) (by decide), trV_1 V he, if_neg z, cov_fr (k 10 (by decide) (by decide) (by decide))]
      exact b.en f hf q
theorem Inv.trd {U : NodV} {V : MemV} {H : OneV} {W : WkV} {n vol t T : Nat} {x : Nat → Nat} (i : Inv U V H W n vol t T x) {e : Nat} (he : e < 64) {but : Int32} (hf : Fre V but e) : Inv U (trV V e) H W n vol t T x := by
  have s0 : ¬ V 1 e = 0 := by rw [hf.1]; exact i10
  have z := (i.hz he s0).mp hf.2.1
  have d := i.drop he hf.1 hf.2.2.1 z.1 z.2
  have k : ∀ r : Fin 12, r ≠ 0 → trV V e r = gV_X1_drop V (nI e) r := fun r h => uv_k _ _ _ _ _ h
  refine d.frz (k 1 (by decide)) (k 2 (by decide)) (k 3 (by decide)) (k 4 (by decide)) (k 5 (by decide)) (k 6 (by decide)) (k 8 (by decide)) (k 9 (by decide)) (k 10 (by decide)) ?_ ?_ (Nat.le_refl _) (Nat.le_refl _) d.Z.tT d.Z.T30 (i.Z.tri.trm (trV_14 V e) he s0 (by rw [trV_1 V he, if_pos rfl]) (fun k q => by rw [trV_1 V he, if_neg q]))
  · rw [trV_0 V e _ (by decide), dr_k _ _ _ (by decide) (by decide)]
  · rw [trV_0 V e _ (by decide)]; exact i.Z.tk
end
section
/-! So many are trimmed, on both sides. -/
def nc (V : MemV) : Nat := cnt (fun k => decide (¬ V 1 k = 0)) 0 64
theorem nc_tr {V : MemV} {e : Nat} (he : e < 64) (h : ¬ V 1 e = 0) : nc (trV V e) + 1 = nc V := by
  have c := cnt_one (P := fun k => decide (¬ V 1 k = 0)) (P' := fun k => decide (¬ trV V e 1 k = 0)) (e := e) (n := 64) (k := 0) (Nat.zero_le _) (by omega) (fun j _ _ q => by rw [trV_1 V he, if_neg q])
  rw [trV_1 V he, if_pos rfl, if_pos (show decide (¬ V 1 e = 0) = true by simpa using h)] at c
  unfold nc
  simpa using c
/-- what trimming leaves as it is -/
def Tsm (V V' : MemV) : Prop := (∀ r : Fin 12, r ≠ 0 → r ≠ 1 → r ≠ 5 → V' r = V r) ∧ (∀ k, k ≠ 14 → V' 0 k = V 0 k) ∧ ∀ e, e < 64 → V' 1 e = 0 ∨ V' 1 e = V 1 e
theorem Tsm.refl (V : MemV) : Tsm V V := ⟨fun _ _ _ _ => rfl, fun _ _ => rfl, fun _ _ => Or.inr rfl⟩
theorem Tsm.trans {V V' V'' : MemV} (h : Tsm V V') (h' : Tsm V' V'') : Tsm V V'' :=
  ⟨fun r a b c => (h'.1 r a b c).trans (h.1 r a b c), fun k a => (h'.2.1 k a).trans (h.2.1 k a), fun e he => by
    rcases h'.2.2 e he with q | q
    · exact Or.inl q
    · rw [q]; exact h.2.2 e he⟩
theorem Tsm.tr (V : MemV) {e : Nat} (he : e < 64) : Tsm V (trV V e) :=
  ⟨trV_k V e, trV_0 V e, fun f hf => by
    rw [trV_1 V he]
    split
    · exact Or.inl rfl
    · exact Or.inr rfl⟩
theorem pnd_fr {wk : Option Nat} {V V' : MemV} {W : WkV} (h1 : V' 0 16 = V 0 16) (h2 : V' 11 = V 11) (e : Nat) : pnd wk V' W e = pnd wk V W e := by
  unfold pnd
  cases wk with
  | none => rfl
  | some k => rw [h1, h2]
theorem trim_same (x1 x2 : Int32) (y : Int32) : ∀ (nn k : Nat) (V : MemV), lp_X1_trimSome_7 x1 x2 nn k V = (lp_X1_shrink_12 (-1) y nn k V 0 14 - x2, lp_X1_shrink_12 (-1) y nn k V)
  | 0, k, V => rfl
  | nn + 1, k, V => by
    unfold lp_X1_trimSome_7 lp_X1_shrink_12
    by_cases q : q_X1_longestUnused V (-1) = -1
    · rw [if_pos q, if_pos q]
    · rw [if_neg q, if_neg q, trim_same x1 x2 y nn (k + 1)]
theorem trims_loop {wk : Option Nat} {U : NodV} {H : OneV} {W : WkV} {n vol t T : Nat} {x : Nat → Nat} {J : MJ} (h : RefL J) (I : MI) (hb : HB (I 188 20) x) (c : Int32) (but y : Int32) {N : Nat} (hN : N < 1000) : ∀ (nn k : Nat) (V : MemV) (D G : RowV), k + nn = N → Rel wk U V H W D n → Inv U V H W n vol t T x → (∀ e, e < 64 → ¬ nI e = but → pnd wk V W e = 0) → ∃ D' G' k', Ev T_X10_trims 17 [some (mR (some 188)), some (mI (nI N)), some (mI but), some (mI (nI k)), some (mI (if nn = 0 then -1 else q_X1_longestUnused V but))] [] (rF I D G c, J) = some (some (mI (nI k')), (rF I D' G' c, J)) ∧ Rel wk U (lp_X1_shrink_12 but y nn k V) H W D' n ∧ Inv U (lp_X1_shrink_12 but y nn k V) H W n vol t T x ∧ Tsm V (lp_X1_shrink_12 but y nn k V) ∧ (∀ b, b < 64 → but = nI b → lp_X1_shrink_12 but y nn k V 1 b = V 1 b) ∧ lp_X1_shrink_12 but y nn k V 0 14 = V 0 14 + nI (k' - k) ∧ k ≤ k' ∧ nc (lp_X1_shrink_12 but y nn k V) + (k' - k) = nc V ∧ (k' = N ∨ ∀ j, j < 64 → ¬ Fre (lp_X1_shrink_12 but y nn k V) but j) := by
  intro nn
  induction nn with
  | zero =>
    intro k V D G hk r i hp
    rw [if_pos rfl]
    refine ⟨D, G, k, ?_, r, i, Tsm.refl V, fun _ _ _ => rfl, ?_, Nat.le_refl _, ?_, Or.inl (by omega)⟩
    · rw [E_X10_trims_17, if_pos rfl]
    · show V 0 14 = V 0 14 + nI (k - k)
      rw [Nat.sub_self, nI_0, Int32.add_zero]
    · show nc V + (k - k) = nc V
      rw [Nat.sub_self, Nat.add_zero]
  | succ nn ih =>
    intro k V D G hk r i hp
    rw [if_neg (Nat.succ_ne_zero nn)]
    rcases lu_q V but with ⟨q1, q2⟩ | ⟨e, e64, q1, q2⟩
    · have ev : lp_X1_shrink_12 but y (nn + 1) k V = V := by
        unfold lp_X1_shrink_12
        rw [if_pos q1]
      rw [ev]
      refine ⟨D, G, k, ?_, r, i, Tsm.refl V, fun _ _ _ => rfl, ?_, Nat.le_refl _, ?_, Or.inr q2⟩
      · rw [q1, E_X10_trims_17, if_pos rfl]
      · rw [Nat.sub_self, nI_0, Int32.add_zero]
      · rw [Nat.sub_self, Nat.add_zero]
    · have ne : ¬ nI e = -1 := nI_m1 (by omega)
      have s0 : ¬ V 1 e = 0 := by rw [q2.1]; exact i10
      have ev : lp_X1_shrink_12 but y (nn + 1) k V = lp_X1_shrink_12 but y nn (k + 1) (trV V e) := by
        show (if q_X1_longestUnused V but = -1 then V else _) = _
        rw [q1, if_neg ne]
        rfl
      have r' := r.trd i.N.n60 e64
      have i' := i.trd e64 q2
      have hp' : ∀ f, f < 64 → ¬ nI f = but → pnd wk (trV V e) W f = 0 := fun f h1 h2 => by
        rw [pnd_fr (trV_0 V e _ (by decide)) (trV_k V e _ (by decide) (by decide) (by decide))]
        exact hp f h1 h2
      have st : ∀ G, Ev T_X10_trims 17 [some (mR (some 188)), some (mI (nI N)), some (mI but), some (mI (nI k)), some (mI (nI e))] [] (rF I D G c, J) = if nI N ≤ nI (k + 1) then Ev T_X10_trims 17 [some (mR (some 188)), some (mI (nI N)), some (mI but), some (mI (nI (k + 1))), some (mI (-1))] [] (rF I (trD D e) G c, J) else (M_X10_leastFree [mR (some 188), mI but] (rF I (trD D e) G c, J)).bind fun u11 => (asI u11.1).bind fun y12 => Ev T_X10_trims 17 [some (mR (some 188)), some (mI (nI N)), some (mI but), some (mI (nI (k + 1))), some (mI y12)] [] u11.2 := by
        intro G
        have d2 : sD D (701 + 9 * e + 0) 0 2 = D 2 := sD_n _ _ (by omega)
        rw [E_X10_trims_17, if_neg ne]
        simp only [h.f18, Option.bind_some, w_entryAt _ e 0 (show (0 : Int32) = nI 0 from rfl), asI_I, h.stD _ _ rfl (show 701 + 9 * e + 0 < 1853 by omega), rF_sD, h.ldD _ (show (2 : Int32) = nI 2 from rfl) (by decide), rF_D, h.stD _ _ (show (2 : Int32) = nI 2 from rfl) (by decide), h.kt, if_true, nI_1, d2]
        rfl
      rw [ev, q1]
      have hk1 : k + 1 ≤ N := by omega
      by_cases z : nn = 0
      · obtain ⟨D', G', k', s1, s2, s3, s4, s5, s6, s7, s8, s9⟩ := ih (k + 1) (trV V e) (trD D e) G (by omega) r' i' hp'
        rw [if_pos z] at s1
        refine ⟨D', G', k', ?_, s2, s3, (Tsm.tr V e64).trans s4, ?_, ?_, by omega, ?_, s9⟩
        · rw [st, if_pos (nI_le (by omega) (by omega))]
          exact s1
        · intro b b64 hb2
          rw [s5 b b64 hb2, trV_1 V e64, if_neg (fun q => q2.2.2.2 (by rw [hb2, q]))]
        · rw [s6, trV_14, Int32.add_assoc, show (1 : Int32) = nI 1 from rfl, nI_add, show 1 + (k' - (k + 1)) = k' - k by omega]
        · have := nc_tr e64 s0
          omega
      · obtain ⟨G1, g1⟩ := r'.leastFree i' h I hb G c but hp'
        obtain ⟨D', G', k', s1, s2, s3, s4, s5, s6, s7, s8, s9⟩ := ih (k + 1) (trV V e) (trD D e) G1 (by omega) r' i' hp'
        rw [if_neg z] at s1
        refine ⟨D', G', k', ?_, s2, s3, (Tsm.tr V e64).trans s4, ?_, ?_, by omega, ?_, s9⟩
        · rw [st, if_neg (nI_ge (by omega) (by omega)), g1]
          simp only [Option.bind_some, asI_I]
          exact s1
        · intro b b64 hb2
          rw [s5 b b64 hb2, trV_1 V e64, if_neg (fun q => q2.2.2.2 (by rw [hb2, q]))]
        · rw [s6, trV_14, Int32.add_assoc, show (1 : Int32) = nI 1 from rfl, nI_add, show 1 + (k' - (k + 1)) = k' - k by omega]
        · have := nc_tr e64 s0
          omega
theorem Rel.trims {wk : Option Nat} {U : NodV} {V : MemV} {H : OneV} {W : WkV} {D : RowV} {n vol t T : Nat} {x : Nat → Nat} (r : Rel wk U V H W D n) (i : Inv U V H W n vol t T x) {J : MJ} (h : RefL J) (I : MI) (hb : HB (I 188 20) x) (G : RowV) (c : Int32) (but y x1 : Int32) (hx : ix x1 < 1000) (hp : ∀ e, e < 64 → ¬ nI e = but → pnd wk V W e = 0) : ∃ D' G' k', M_X10_trims [mR (some 188), mI x1, mI but] (rF I D G c, J) = some (some (mI (nI k')), (rF I D' G' c, J)) ∧ Rel wk U (lp_X1_shrink_12 but y (ix x1) 0 V) H W D' n ∧ Inv U (lp_X1_shrink_12 but y (ix x1) 0 V) H W n vol t T x ∧ Tsm V (lp_X1_shrink_12 but y (ix x1) 0 V) ∧ (∀ b, b < 64 → but = nI b → lp_X1_shrink_12 but y (ix x1) 0 V 1 b = V 1 b) ∧ lp_X1_shrink_12 but y (ix x1) 0 V 0 14 = V 0 14 + nI k' ∧ nc (lp_X1_shrink_12 but y (ix x1) 0 V) + k' = nc V ∧ (k' = ix x1 ∨ ∀ j, j < 64 → ¬ Fre (lp_X1_shrink_12 but y (ix x1) 0 V) but j) := by
  rw [E_X10_trims]
  by_cases z : x1 ≤ 0
  · have z0 : ix x1 = 0 := by
      have := i32_le.mp z
      have e0 : (0 : Int32).toInt = 0 := rfl
      show x1.toInt.toNat = 0
      omega
    rw [if_pos z, z0]
    refine ⟨D, G, 0, ?_, r, i, Tsm.refl V, fun _ _ _ => rfl, ?_, Nat.add_zero _, Or.inl rfl⟩
    · rw [E_X10_trims_17, if_pos rfl]
      rfl
    · show V 0 14 = V 0 14 + nI 0
      rw [nI_0, Int32.add_zero]
  · rw [if_neg z]
    obtain ⟨G1, g1⟩ := r.leastFree i h I hb G c but hp
    have xe : x1 = nI (ix x1) := nI_ix (fun q => z (Int32.le_of_lt q))
    have nz : ¬ ix x1 = 0 := fun q => z (by rw [xe, q]; exact Int32.le_refl _)
    obtain ⟨D', G', k', s1, s2, s3, s4, s5, s6, s7, s8, s9⟩ := trims_loop h I hb c but y hx (ix x1) 0 V D G1 (by omega) r i hp
    rw [if_neg nz, ← xe] at s1
    refine ⟨D', G', k', ?_, s2, s3, s4, s5, ?_, ?_, s9⟩
    · simp only [h.kt, if_true, g1, Option.bind_some, asI_I]
      exact s1
    · rw [s6, Nat.sub_zero]
    · rw [Nat.sub_zero] at s8
      exact s8
end
section
/-! An entry is come to, or made, on both sides. -/
def cmD (D : RowV) (e : Nat) : RowV := sD (sD D (701 + 9 * e + 5) (D 0)) 0 (D 0 + 1)
def ntD (D : RowV) (w m e : Nat) : RowV := sD (sD (sD (sD D (17 + 96 * w + (18 + 3 * m)) (nI e)) (17 + 96 * w + (18 + 3 * m) + 1) (D (701 + 9 * e + 6))) (17 + 96 * w + (18 + 3 * m) + 2) (D (701 + 9 * e + 4))) (17 + 96 * w + 5) (nI (m + 1))
def cmN (wk : Option Nat) (m : Nat) (D : RowV) (e : Nat) : RowV := match wk with
  | none => cmD D e
  | some w => ntD (cmD D e) w m e
theorem comeD_rF (I : MI) (D G : RowV) (c : Int32) (e : Nat) : comeD (rF I D G c) e = rF I (cmD D e) G c := by
  unfold comeD cmD
  rw [rF_D, rF_sD, rF_sD]
theorem noteD_rF (I : MI) (D G : RowV) (c : Int32) (w m e : Nat) : noteD (rF I D G c) w m e = rF I (ntD D w m e) G c := by
  unfold noteD ntD
  rw [rF_D, rF_sD, rF_sD, rF_sD, rF_sD]
theorem w_come {J : MJ} (h : RefL J) (I : MI) (D G : RowV) (c : Int32) {wk : Option Nat} {m : Nat} (hw : I 188 21 = oI wk) (hm : ∀ k, wk = some k → k < 4 ∧ D (17 + 96 * k + 5) = nI m ∧ m < 25) {e : Nat} (he : e < 128) : M_X10_comesTo [mR (some 188), mI (nI e)] (rF I D G c, J) = some (none, (rF I (cmN wk m D e) G c, J)) := by
  cases wk with
  | none =>
    rw [w_comesTo0 h _ (by rw [rF_k _ _ _ _ (by decide)]; exact hw) he, comeD_rF]
    rfl
  | some w =>
    obtain ⟨w4, h5, m25⟩ := hm w rfl
    have d0 : sD D (701 + 9 * e + 5) (D 0) 0 = D 0 := sD_n _ _ (by omega)
    have d5 : cmD D e (17 + 96 * w + 5) = nI m := by
      unfold cmD
      rw [sD_n _ _ (by omega), sD_n _ _ (by omega)]
      exact h5
    rw [E_X10_comesTo]
    simp only [h.f18, Option.bind_some, w_entryAt _ e 5 (show (5 : Int32) = nI 5 from rfl), asI_I, h.ldD _ (show (0 : Int32) = nI 0 from rfl) (by decide), rF_D, h.stD _ _ rfl (show 701 + 9 * e + 5 < 1853 by omega), rF_sD, d0, h.stD _ _ (show (0 : Int32) = nI 0 from rfl) (by decide), h.kt, if_true]
    have nt := w_notes h (rF I (cmD D e) G c) (w := w) (m := m) (e := e) (by rw [rF_k _ _ _ _ (by decide)]; exact hw) w4 (by rw [rF_D]; exact d5) (by omega) he
    unfold cmD at nt
    rw [nt]
    simp only [Option.bind_some, asV_n]
    have := noteD_rF I (cmD D e) G c w m e
    unfold cmD at this
    rw [this]
    rfl
theorem cmN_o {wk : Option Nat} {m : Nat} (hm : ∀ k, wk = some k → k < 4 ∧ m < 25) (D : RowV) (e i : Nat) (hi : i < 17 ∨ 401 ≤ i) : cmN wk m D e i = cmD D e i := by
  cases wk with
  | none => rfl
  | some w =>
    have := hm w rfl
    show ntD (cmD D e) w m e i = _
    unfold ntD
    rw [sD_n _ _ (by omega), sD_n _ _ (by omega), sD_n _ _ (by omega), sD_n _ _ (by omega)]
theorem cmD_o (D : RowV) {e i : Nat} (h0 : i ≠ 0) (h1 : i ≠ 701 + 9 * e + 5) : cmD D e i = D i := by
  unfold cmD
  rw [sD_n _ _ h0, sD_n _ _ h1]
theorem cmD_0 (D : RowV) (e : Nat) : cmD D e 0 = D 0 + 1 := sD_s _ _ _
theorem cmD_5 (D : RowV) (e : Nat) : cmD D e (701 + 9 * e + 5) = D 0 := by
  unfold cmD
  rw [sD_n _ _ (by omega), sD_s]
theorem RelB.come {U : NodV} {V : MemV} {H : OneV} {D D' : RowV} {n : Nat} (b : RelB U V H D n) (n60 : n ≤ 60) {e : Nat} (he : e < 64) (h1 : ¬ V 1 e = 0) (hd : ∀ i, i < 17 ∨ 401 ≤ i → D' i = cmD D e i) : RelB U (gV_X1_comeTo V (nI e)) H D' n := by
  have k : ∀ r : Fin 12, r ≠ 0 → r ≠ 7 → r ≠ 11 → gV_X1_comeTo V (nI e) r = V r := cT_k V (nI e)
  have o : ∀ i, (i < 17 ∨ 401 ≤ i) → i ≠ 0 → i ≠ 701 + 9 * e + 5 → D' i = D i := fun i a b c => (hd i a).trans (cmD_o D b c)
  refine ⟨?_, ?_, ?_, ?_, ?_, ?_, ?_, ?_, ?_, ?_, ?_⟩
  · rw [hd 0 (by omega), cmD_0, cT_t V he, b.tk]
  · rw [o 1 (by omega) (by omega) (by omega), cT_0 _ _ _ (by decide) (by decide)]; exact b.lo
  · rw [o 2 (by omega) (by omega) (by omega), cT_0 _ _ _ (by decide) (by decide)]; exact b.tr
  · rw [o 3 (by omega) (by omega) (by omega), cT_0 _ _ _ (by decide) (by decide)]; exact b.rm
  · rw [o 4 (by omega) (by omega) (by omega)]; exact b.ev
  · intro v hv
    rw [o _ (by omega) (by omega) (by omega), k 9 (by decide) (by decide) (by decide)]; exact b.rt v hv
  · intro v hv
    rw [o _ (by omega) (by omega) (by omega), k 10 (by decide) (by decide) (by decide)]; exact b.ov v hv
  · intro v hv
    rw [o _ (by omega) (by omega) (by omega)]; exact b.ha v hv
  · intro j hj
    rw [o _ (by omega) (by omega) (by omega), o _ (by omega) (by omega) (by omega), o _ (by omega) (by omega) (by omega), o _ (by omega) (by omega) (by omega), o _ (by omega) (by omega) (by omega)]
    exact b.nd j hj
  · intro f hf
    rw [o _ (by omega) (by omega) (by omega), k 1 (by decide) (by decide) (by decide)]
    exact b.th f hf
  · intro f hf q
    rw [k 1 (by decide) (by decide) (by decide)] at q
    have en := b.en f hf q
    rw [o _ (by omega) (by omega) (by omega), o (701 + 9 * f + 2) (by omega) (by omega) (by omega), o (701 + 9 * f + 3) (by omega) (by omega) (by omega), o (701 + 9 * f + 4) (by omega) (by omega) (by omega), o (701 + 9 * f + 6) (by omega) (by omega) (by omega), o (701 + 9 * f + 7) (by omega) (by omega) (by omega), o (701 + 9 * f + 8) (by omega) (by omega) (by omega), k 1 (by decide) (by decide) (by decide), k 2 (by decide) (by decide) (by decide), k 3 (by decide) (by decide) (by decide), k 4 (by decide) (by decide) (by decide), k 6 (by decide) (by decide) (by decide), k 8 (by decide) (by decide) (by decide), cov_fr (k 10 (by decide) (by decide) (by decide)), cT_7 V he]
    refine ⟨en.1, en.2.1, en.2.2.1, en.2.2.2.1, ?_, en.2.2.2.2.2.1, en.2.2.2.2.2.2.1, en.2.2.2.2.2.2.2⟩
    by_cases z : f = e
    · subst z
      rw [if_pos rfl, hd _ (by omega), cmD_5, b.tk]
    · rw [if_neg z, o _ (by omega) (by omega) (by omega)]
      exact en.2.2.2.2.1
/-- the walker that goes has room for what it comes to -/
def TlI (wk : Option Nat) (V : MemV) (W : WkV) (tl : Nat) : Prop := ∀ k, wk = some k → V 0 16 = nI tl ∧ ∃ m, (W k).1 0 4 = nI m ∧ m ≤ 23
/-- the walkers' part, when the walker that goes notes where it came -/
theorem Rel.note {wk : Option Nat} {U : NodV} {V V' : MemV} {H : OneV} {W : WkV} {D D' : RowV} {n tl e : Nat} (r : Rel wk U V H W D n) (b : RelB U V' H D' n) (ht : TlI wk V W tl) (tl2 : tl < 2) (he : e < 64) (h0 : wk = none → ∀ i, 17 ≤ i → i < 401 → D' i = D i) (h1 : ∀ w m, wk = some w → (W w).1 0 4 = nI m → m ≤ 23 → D' (17 + 96 * w + 5) = nI (m + tl + 1) ∧ D' (17 + 96 * w + (18 + 3 * (m + tl))) = nI e ∧ D' (17 + 96 * w + (18 + 3 * (m + tl)) + 1) = V' 8 e ∧ D' (17 + 96 * w + (18 + 3 * (m + tl)) + 2) = V' 6 e ∧ (∀ i, 17 ≤ i → i < 401 → i ≠ 17 + 96 * w + 5 → i ≠ 17 + 96 * w + (18 + 3 * (m + tl)) → i ≠ 17 + 96 * w + (18 + 3 * (m + tl)) + 1 → i ≠ 17 + 96 * w + (18 + 3 * (m + tl)) + 2 → D' i = D i) ∧ V' 0 16 = nI (tl + 1) ∧ (∀ j, V' 11 j = if j = tl then nI e else V 11 j) ∧ ∀ f j, j < tl → V 11 j = nI f → f < 64 → V' 8 f = V 8 f ∧ V' 6 f = V 6 f) : Rel wk U V' H W D' n := by
  cases wk with
  | none => exact r.fr b (h0 rfl) (fun k z => by cases z)
  | some w =>
    obtain ⟨t1, m, t2, t3⟩ := ht w rfl
    obtain ⟨g1, g2, g3, g4, g5, g6, g7, g8⟩ := h1 w m rfl t2 t3
    obtain ⟨w4, m', tl', rT⟩ := r.T w rfl
    have mm : m' = m := (nI_eq (by have := rT.2.2.2.2.1; omega) (by omega)).mp (rT.2.1.symm.trans t2)
    have tt : tl' = tl := (nI_eq (by have := rT.2.2.2.1; omega) (by omega)).mp (rT.2.2.1.symm.trans t1)
    subst mm tt
    refine ⟨b, fun k hk => ?_, fun k hk q1 q2 => ?_, fun k hk => ?_⟩
    · have a := r.K k hk
      have ixw : ∀ j, k = w → j < ix ((W k).1 0 4) → j < m' := fun j z q => by
        rw [z, t2, ix_nI (by omega)] at q
        exact q
      refine ⟨?_, fun q => ?_, fun q j h1 h2 => ?_, fun q j h1 h2 => ?_⟩
      · rw [g5 _ (by omega) (by omega) (by omega) (by omega) (by omega) (by omega)]; exact a.ws
      · rw [g5 _ (by omega) (by omega) (by omega) (by omega) (by omega) (by omega), g5 _ (by omega) (by omega) (by omega) (by omega) (by omega) (by omega), g5 _ (by omega) (by omega) (by omega) (by omega) (by omega) (by omega), g5 _ (by omega) (by omega) (by omega) (by omega) (by omega) (by omega)]
        exact a.un q
      · rw [g5 _ (by omega) (by omega) (by omega) (by omega) (by omega) (by omega)]
        exact a.sp q j h1 h2
      · have hj : k = w → j < m' := fun z => ixw j z h2
        have b1 : 17 + 96 * k + (18 + 3 * j) ≠ 17 + 96 * w + (18 + 3 * (m' + tl')) ∧ 17 + 96 * k + (18 + 3 * j) ≠ 17 + 96 * w + (18 + 3 * (m' + tl')) + 1 ∧ 17 + 96 * k + (18 + 3 * j) ≠ 17 + 96 * w + (18 + 3 * (m' + tl')) + 2 ∧ 17 + 96 * k + (18 + 3 * j + 1) ≠ 17 + 96 * w + (18 + 3 * (m' + tl')) ∧ 17 + 96 * k + (18 + 3 * j + 1) ≠ 17 + 96 * w + (18 + 3 * (m' + tl')) + 1 ∧ 17 + 96 * k + (18 + 3 * j + 1) ≠ 17 + 96 * w + (18 + 3 * (m' + tl')) + 2 ∧ 17 + 96 * k + (18 + 3 * j + 2) ≠ 17 + 96 * w + (18 + 3 * (m' + tl')) ∧ 17 + 96 * k + (18 + 3 * j + 2) ≠ 17 + 96 * w + (18 + 3 * (m' + tl')) + 1 ∧ 17 + 96 * k + (18 + 3 * j + 2) ≠ 17 + 96 * w + (18 + 3 * (m' + tl')) + 2 := by
          by_cases z : k = w
          · have := hj z
            omega
          · omega
        obtain ⟨c1, c2, c3, c4, c5, c6, c7, c8, c9⟩ := b1
        rw [g5 _ (by omega) (by omega) (by omega) c1 c2 c3, g5 _ (by omega) (by omega) (by omega) c4 c5 c6, g5 _ (by omega) (by omega) (by omega) c7 c8 c9]
        exact a.wy q j h1 h2
    · have kw : k ≠ w := fun z => q2 (by rw [z])
      exact ⟨by rw [g5 _ (by omega) (by omega) (by omega) (by omega) (by omega) (by omega)]; exact r.M k hk q1 q2, r.R2 k hk q1 q2⟩
    · cases hk
      refine ⟨w4, m', tl' + 1, rT.1, t2, g6, by omega, by omega, ?_, fun j hj => ?_⟩
      · rw [g1, Nat.add_assoc]
      · by_cases z : j = tl'
        · subst z
          refine ⟨e, he, by rw [g7, if_pos rfl], g2, g3, g4⟩
        · obtain ⟨f, f1, f2, f3, f4, f5⟩ := rT.2.2.2.2.2.2 j (by omega)
          have y := g8 f j (by omega) f2 f1
          refine ⟨f, f1, by rw [g7, if_neg z]; exact f2, ?_, ?_, ?_⟩
          · rw [g5 _ (by omega) (by omega) (by omega) (by omega) (by omega) (by omega)]; exact f3
          · rw [g5 _ (by omega) (by omega) (by omega) (by omega) (by omega) (by omega), y.1]; exact f4
          · rw [g5 _ (by omega) (by omega) (by omega) (by omega) (by omega) (by omega), y.2]; exact f5
theorem Rel.mw {wk : Option Nat} {U : NodV} {V : MemV} {H : OneV} {W : WkV} {D : RowV} {n tl : Nat} (r : Rel wk U V H W D n) (ht : TlI wk V W tl) (tl2 : tl < 2) : ∃ m', ∀ k, wk = some k → k < 4 ∧ D (17 + 96 * k + 5) = nI m' ∧ m' < 25 ∧ ∃ m, (W k).1 0 4 = nI m ∧ m' = m + tl ∧ m ≤ 23 := by
  cases wk with
  | none => exact ⟨0, fun k z => by cases z⟩
  | some w =>
    obtain ⟨t1, m, t2, t3⟩ := ht w rfl
    obtain ⟨w4, m', tl', rT⟩ := r.T w rfl
    have mm : m' = m := (nI_eq (by have := rT.2.2.2.2.1; omega) (by omega)).mp (rT.2.1.symm.trans t2)
    have tt : tl' = tl := (nI_eq (by have := rT.2.2.2.1; omega) (by omega)).mp (rT.2.2.1.symm.trans t1)
    subst mm tt
    exact ⟨m' + tl', fun k z => by cases z; exact ⟨w4, rT.2.2.2.2.2.1, by omega, m', t2, rfl, t3⟩⟩
theorem ntD_at {D : RowV} {w m e : Nat} (w4 : w < 4) (m25 : m < 25) : ntD D w m e (17 + 96 * w + 5) = nI (m + 1) ∧ ntD D w m e (17 + 96 * w + (18 + 3 * m)) = nI e ∧ ntD D w m e (17 + 96 * w + (18 + 3 * m) + 1) = D (701 + 9 * e + 6) ∧ ntD D w m e (17 + 96 * w + (18 + 3 * m) + 2) = D (701 + 9 * e + 4) ∧ ∀ i, i ≠ 17 + 96 * w + 5 → i ≠ 17 + 96 * w + (18 + 3 * m) → i ≠ 17 + 96 * w + (18 + 3 * m) + 1 → i ≠ 17 + 96 * w + (18 + 3 * m) + 2 → ntD D w m e i = D i := by
  unfold ntD
  refine ⟨sD_s _ _ _, ?_, ?_, ?_, fun i a b c d => ?_⟩
  · rw [sD_n _ _ (by omega), sD_n _ _ (by omega), sD_n _ _ (by omega), sD_s]
  · rw [sD_n _ _ (by omega), sD_n _ _ (by omega), sD_s]
  · rw [sD_n _ _ (by omega), sD_s]
  · rw [sD_n _ _ a, sD_n _ _ d, sD_n _ _ c, sD_n _ _ b]
theorem Rel.come {wk : Option Nat} {U : NodV} {V : MemV} {H : OneV} {W : WkV} {D : RowV} {n tl : Nat} (r : Rel wk U V H W D n) (n60 : n ≤ 60) {J : MJ} (h : RefL J) (I : MI) (hw : I 188 21 = oI wk) (G : RowV) (c : Int32) (ht : TlI wk V W tl) (tl2 : tl < 2) {e : Nat} (he : e < 64) (e1 : ¬ V 1 e = 0) : ∃ D', M_X10_comesTo [mR (some 188), mI (nI e)] (rF I D G c, J) = some (none, (rF I D' G c, J)) ∧ Rel wk U (gV_X1_comeTo V (nI e)) H W D' n ∧ TlI wk (gV_X1_comeTo V (nI e)) W (tl + 1) ∧ ∀ i, 401 ≤ i → i < 701 → D' i = D i := by
  obtain ⟨m', hm⟩ := r.mw ht tl2
  have k : ∀ r : Fin 12, r ≠ 0 → r ≠ 7 → r ≠ 11 → gV_X1_comeTo V (nI e) r = V r := cT_k V (nI e)
  have hm2 : ∀ k, wk = some k → k < 4 ∧ m' < 25 := fun k z => ⟨(hm k z).1, (hm k z).2.2.1⟩
  refine ⟨cmN wk m' D e, w_come h I D G c hw (fun k z => ⟨(hm k z).1, (hm k z).2.1, (hm k z).2.2.1⟩) (by omega), ?_, ?_, ?_⟩
  · refine r.note (r.B.come n60 he e1 (fun i hi => cmN_o hm2 D e i hi)) ht tl2 he ?_ ?_
    · intro z i h1 h2
      subst z
      exact cmD_o D (by omega) (by omega)
    · intro w m z hmw m23
      subst z
      obtain ⟨w4, _, m25, m1, e1', e2, e3⟩ := hm w rfl
      have mm : m1 = m := (nI_eq (by omega) (by omega)).mp (e1'.symm.trans hmw)
      subst mm e2
      obtain ⟨y1, y2, y3, y4, y5⟩ := ntD_at (D := cmD D e) (w := w) (m := m1 + tl) (e := e) w4 m25
      have en := r.B.en e he e1
      refine ⟨y1, y2, ?_, ?_, fun i h1 h2 h3 h4 h5 h6 => ?_, (cT_tl V he (ht w rfl).1 tl2).1, (cT_tl V he (ht w rfl).1 tl2).2, fun f j _ _ _ => ?_⟩
      · show ntD (cmD D e) w (m1 + tl) e _ = _
        rw [y3, cmD_o D (by omega) (by omega), k 8 (by decide) (by decide) (by decide)]
        exact en.2.2.2.2.2.1
      · show ntD (cmD D e) w (m1 + tl) e _ = _
        rw [y4, cmD_o D (by omega) (by omega), k 6 (by decide) (by decide) (by decide)]
        exact en.2.2.2.1
      · show ntD (cmD D e) w (m1 + tl) e _ = _
        rw [y5 i h3 h4 h5 h6, cmD_o D (by omega) (by omega)]
      · rw [k 8 (by decide) (by decide) (by decide), k 6 (by decide) (by decide) (by decide)]
        exact ⟨rfl, rfl⟩
  · intro k z
    obtain ⟨t1, m, t2, t3⟩ := ht k z
    exact ⟨(cT_tl V he t1 tl2).1, m, t2, t3⟩
  · intro i h1 h2
    rw [cmN_o hm2 D e i (by omega), cmD_o D (by omega) (by omega)]
def mkD (D : RowV) (e : Nat) (x1 x2 x3 : Int32) : RowV := sD (sD (sD (sD (sD (sD (sD (sD D (701 + 9 * e + 0) 1) (701 + 9 * e + 1) x1) (701 + 9 * e + 2) x2) (701 + 9 * e + 3) x3) (701 + 9 * e + 4) 0) (701 + 9 * e + 6) (D 0)) (701 + 9 * e + 7) (-1)) (701 + 9 * e + 8) 0
theorem mk0_rF (I : MI) (D G : RowV) (c : Int32) (e : Nat) (x1 x2 x3 : Int32) : mk0 (rF I D G c) e x1 x2 x3 = rF I (mkD D e x1 x2 x3) G c := by
  unfold mk0 mkD
  rw [rF_D, rF_sD, rF_sD, rF_sD, rF_sD, rF_sD, rF_sD, rF_sD, rF_sD]
theorem mkD_o (D : RowV) {e : Nat} (x1 x2 x3 : Int32) {i : Nat} (h : i < 701 + 9 * e ∨ 701 + 9 * e + 9 ≤ i) : mkD D e x1 x2 x3 i = D i := by
  unfold mkD
  rw [sD_n _ _ (by omega), sD_n _ _ (by omega), sD_n _ _ (by omega), sD_n _ _ (by omega), sD_n _ _ (by omega), sD_n _ _ (by omega), sD_n _ _ (by omega), sD_n _ _ (by omega)]
theorem mkD_at (D : RowV) (e : Nat) (x1 x2 x3 : Int32) : mkD D e x1 x2 x3 (701 + 9 * e + 0) = 1 ∧ mkD D e x1 x2 x3 (701 + 9 * e + 1) = x1 ∧ mkD D e x1 x2 x3 (701 + 9 * e + 2) = x2 ∧ mkD D e x1 x2 x3 (701 + 9 * e + 3) = x3 ∧ mkD D e x1 x2 x3 (701 + 9 * e + 4) = 0 ∧ mkD D e x1 x2 x3 (701 + 9 * e + 6) = D 0 ∧ mkD D e x1 x2 x3 (701 + 9 * e + 7) = -1 ∧ mkD D e x1 x2 x3 (701 + 9 * e + 8) = 0 := by
  unfold mkD
  refine ⟨?_, ?_, ?_, ?_, ?_, ?_, ?_, sD_s _ _ _⟩
  · rw [sD_n _ _ (by omega), sD_n _ _ (by omega), sD_n _ _ (by omega), sD_n _ _ (by omega), sD_n _ _ (by omega), sD_n _ _ (by omega), sD_n _ _ (by omega), sD_s]
  · rw [sD_n _ _ (by omega), sD_n _ _ (by omega), sD_n _ _ (by omega), sD_n _ _ (by omega), sD_n _ _ (by omega), sD_n _ _ (by omega), sD_s]
  · rw [sD_n _ _ (by omega), sD_n _ _ (by omega), sD_n _ _ (by omega), sD_n _ _ (by omega), sD_n _ _ (by omega), sD_s]
  · rw [sD_n _ _ (by omega), sD_n _ _ (by omega), sD_n _ _ (by omega), sD_n _ _ (by omega), sD_s]
  · rw [sD_n _ _ (by omega), sD_n _ _ (by omega), sD_n _ _ (by omega), sD_s]
  · rw [sD_n _ _ (by omega), sD_n _ _ (by omega), sD_s]
  · rw [sD_n _ _ (by omega), sD_s]
theorem RelB.lu {U : NodV} {V : MemV} {H : OneV} {D : RowV} {n : Nat} (b : RelB U V H D n) {e : Nat} (lu : f_X1_leastUnused V = some e) : fst? (fun e => !thQ D e) 0 128 = some e := by
  obtain ⟨e64, e0, e1⟩ := lu_some lu
  refine fst_is (Nat.zero_le _) (by omega) ?_ (fun j _ hj => ?_)
  · unfold thQ
    rw [b.th0 (by omega) (fun _ => e0)]
    decide
  · unfold thQ
    rw [b.th1 (by omega) (e1 j hj)]
    decide
/-- an entry made: the cover is asked for in the new memory, where it is none -/
theorem RelB.add {U : NodV} {V : MemV} {H : OneV} {D D' : RowV} {n : Nat} (b : RelB U V H D n) (n60 : n ≤ 60) {e : Nat} (lu : f_X1_leastUnused V = some e) (hc : ∀ v, v < 3 → ¬ V 10 v = nI e) {x1 x2 x3 y2 : Int32} (hn : NmZ x2 y2) (hd : ∀ i, i < 17 ∨ 401 ≤ i → D' i = cmD (mkD D e x1 y2 x3) e i) : RelB U (gV_X1_add V x1 x2 x3) H D' n := by
  obtain ⟨e64, e0, _⟩ := lu_some lu
  have o : ∀ i, (i < 17 ∨ 401 ≤ i) → i ≠ 0 → (i < 701 + 9 * e ∨ 701 + 9 * e + 9 ≤ i) → D' i = D i := fun i a b c => by
    rw [hd i a, cmD_o _ b (by omega), mkD_o D x1 y2 x3 c]
  have o' : ∀ i, (i < 17 ∨ 401 ≤ i) → i ≠ 0 → i ≠ 701 + 9 * e + 5 → D' i = mkD D e x1 y2 x3 i := fun i a b c => by
    rw [hd i a, cmD_o _ b c]
  have m0 : mkD D e x1 y2 x3 0 = D 0 := mkD_o D x1 y2 x3 (by omega)
  obtain ⟨k0, k1, k2, k3, k4, k6, k7, k8⟩ := mkD_at D e x1 y2 x3
  have a9 := ad_k lu x1 x2 x3 9 (Or.inl rfl)
  have a10 := ad_k lu x1 x2 x3 10 (Or.inr rfl)
  have cov : q_X1_coveringVolume V (nI e) = -1 := by
    unfold q_X1_coveringVolume ql_X1_coveringVolume f_X1_coveringVolume
    rw [fst_no (fun v _ hv => by rw [if_neg (nI_m1 (by omega)), if_neg (hc v (by omega))])]
    rfl
  refine ⟨?_, ?_, ?_, ?_, ?_, ?_, ?_, ?_, ?_, ?_, ?_⟩
  · rw [hd 0 (by omega), cmD_0, m0, ad_t lu, b.tk]
  · rw [o 1 (by omega) (by omega) (by omega), ad_0 lu _ _ _ _ (by decide) (by decide)]; exact b.lo
  · rw [o 2 (by omega) (by omega) (by omega), ad_0 lu _ _ _ _ (by decide) (by decide)]; exact b.tr
  · rw [o 3 (by omega) (by omega) (by omega), ad_0 lu _ _ _ _ (by decide) (by decide)]; exact b.rm
  · rw [o 4 (by omega) (by omega) (by omega)]; exact b.ev
  · intro v hv
    rw [o _ (by omega) (by omega) (by omega), a9]; exact b.rt v hv
  · intro v hv
    rw [o _ (by omega) (by omega) (by omega), a10]; exact b.ov v hv
  · intro v hv
    rw [o _ (by omega) (by omega) (by omega)]; exact b.ha v hv
  · intro j hj
    rw [o _ (by omega) (by omega) (by omega), o _ (by omega) (by omega) (by omega), o _ (by omega) (by omega) (by omega), o _ (by omega) (by omega) (by omega), o _ (by omega) (by omega) (by omega)]
    exact b.nd j hj
  · intro f hf
    rw [ad_1 lu]
    by_cases z : f = e
    · subst z
      rw [o' _ (by omega) (by omega) (by omega), k0, if_pos rfl, if_pos ⟨e64, i10⟩]
    · rw [if_neg z, o _ (by omega) (by omega) (by omega)]
      exact b.th f hf
  · intro f hf q
    rw [ad_1 lu, ad_2 lu, ad_3 lu, ad_4 lu, ad_6 lu, ad_7 lu, ad_8 lu, cov_fr a10]
    by_cases z : f = e
    · subst z
      rw [if_pos rfl, if_pos rfl, if_pos rfl, if_pos rfl, if_pos rfl, if_pos rfl, if_pos rfl, cov, o' _ (by omega) (by omega) (by omega), o' (701 + 9 * f + 2) (by omega) (by omega) (by omega), o' (701 + 9 * f + 3) (by omega) (by omega) (by omega), o' (701 + 9 * f + 4) (by omega) (by omega) (by omega), o' (701 + 9 * f + 6) (by omega) (by omega) (by omega), o' (701 + 9 * f + 7) (by omega) (by omega) (by omega), o' (701 + 9 * f + 8) (by omega) (by omega) (by omega), k1, k2, k3, k4, k6, k7, k8, hd _ (by omega), cmD_5, m0, b.tk, if_neg i12]
      exact ⟨rfl, hn, rfl, rfl, rfl, rfl, rfl, rfl⟩
    · rw [ad_1 lu, if_neg z] at q
      rw [if_neg z, if_neg z, if_neg z, if_neg z, if_neg z, if_neg z, if_neg z, o _ (by omega) (by omega) (by omega), o _ (by omega) (by omega) (by omega), o _ (by omega) (by omega) (by omega), o _ (by omega) (by omega) (by omega), o _ (by omega) (by omega) (by omega), o _ (by omega) (by omega) (by omega), o _ (by omega) (by omega) (by omega), o _ (by omega) (by omega) (by omega)]
      exact b.en f hf q
theorem Rel.makes {wk : Option Nat} {U : NodV} {V : MemV} {H : OneV} {W : WkV} {D : RowV} {n : Nat} (r : Rel wk U V H W D n) (n60 : n ≤ 60) {J : MJ} (h : RefL J) (I : MI) (hw : I 188 21 = oI wk) (G : RowV) (c : Int32) (ht : TlI wk V W 0) {e : Nat} (lu : f_X1_leastUnused V = some e) (hc : ∀ v, v < 3 → ¬ V 10 v = nI e) (x1 x2 x3 : Int32) {y2 : Int32} (hn : NmZ x2 y2) : ∃ D', M_X10_makes [mR (some 188), mI x1, mI y2, mI x3] (rF I D G c, J) = some (some (mI (nI e)), (rF I D' G c, J)) ∧ Rel wk U (gV_X1_add V x1 x2 x3) H W D' n ∧ TlI wk (gV_X1_add V x1 x2 x3) W 1 ∧ ∀ i, 401 ≤ i → i < 701 → D' i = D i := by
  obtain ⟨m', hm⟩ := r.mw ht (by decide)
  obtain ⟨e64, e0, _⟩ := lu_some lu
  have hm2 : ∀ k, wk = some k → k < 4 ∧ m' < 25 := fun k z => ⟨(hm k z).1, (hm k z).2.2.1⟩
  obtain ⟨k0, k1, k2, k3, k4, k6, k7, k8⟩ := mkD_at D e x1 y2 x3
  have wc := w_come h I (mkD D e x1 y2 x3) G c (wk := wk) (m := m') hw (fun k z => ⟨(hm k z).1, by rw [mkD_o D x1 y2 x3 (by have := (hm k z).1; omega)]; exact (hm k z).2.1, (hm k z).2.2.1⟩) (e := e) (by omega)
  refine ⟨cmN wk m' (mkD D e x1 y2 x3) e, ?_, ?_, ?_, ?_⟩
  · refine w_makes h (rF I D G c) x1 y2 x3 (by rw [rF_D]; exact r.B.lu lu) ?_
    rw [mk0_rF]
    exact wc
  · refine r.note (tl := 0) (r.B.add n60 lu hc hn (fun i hi => cmN_o hm2 _ e i hi)) ht (by decide) e64 ?_ ?_
    · intro z i h1 h2
      subst z
      show cmD (mkD D e x1 y2 x3) e i = D i
      rw [cmD_o _ (by omega) (by omega), mkD_o D x1 y2 x3 (by omega)]
    · intro w m z hmw m23
      subst z
      obtain ⟨w4, _, m25, m1, e1', e2, e3⟩ := hm w rfl
      have mm : m1 = m := (nI_eq (by omega) (by omega)).mp (e1'.symm.trans hmw)
      subst mm e2
      obtain ⟨y1, y2', y3, y4, y5⟩ := ntD_at (D := cmD (mkD D e x1 y2 x3) e) (w := w) (m := m' + 0) (e := e) w4 m25
      have tl' := ad_tl lu x1 x2 x3 (ht w rfl).1 (by decide)
      refine ⟨y1, y2', ?_, ?_, fun i h1 h2 h3 h4 h5 h6 => ?_, tl'.1, tl'.2, fun f j hj _ _ => by omega⟩
      · show ntD (cmD (mkD D e x1 y2 x3) e) w (m' + 0) e _ = _
        rw [y3, cmD_o _ (by omega) (by omega), k6, ad_8 lu, if_pos rfl, r.B.tk]
      · show ntD (cmD (mkD D e x1 y2 x3) e) w (m' + 0) e _ = _
        rw [y4, cmD_o _ (by omega) (by omega), k4, ad_6 lu, if_pos rfl]
      · show ntD (cmD (mkD D e x1 y2 x3) e) w (m' + 0) e _ = _
        rw [y5 i h3 h4 h5 h6, cmD_o _ (by omega) (by omega), mkD_o D x1 y2 x3 (by omega)]
  · intro k z
    obtain ⟨t1, m, t2, t3⟩ := ht k z
    exact ⟨(ad_tl lu x1 x2 x3 t1 (by decide)).1, m, t2, t3⟩
  · intro i h1 h2
    rw [cmN_o hm2 _ e i (by omega), cmD_o _ (by omega) (by omega), mkD_o D x1 y2 x3 (by omega)]
end
section
/-! The child of a folder's entry, on both sides. -/
theorem cnt_inj {g : Nat → Nat} : ∀ (m : Nat) {P : Nat → Bool} {n k : Nat}, (∀ i, k ≤ i → i < k + n → P i = true → g i < m) → (∀ i j, k ≤ i → i < k + n → k ≤ j → j < k + n → P i = true → P j = true → g i = g j → i = j) → cnt P k n ≤ m
  | 0, P, n, k, h1, _ => by
    rw [cnt_zero (fun i a b => by
      cases q : P i with
      | false => rfl
      | true => exact absurd (h1 i a b q) (by omega))]
    exact Nat.le_refl _
  | m + 1, P, n, k, h1, h2 => by
    have ih := cnt_inj (g := g) m (P := fun i => P i && decide (g i ≠ m)) (n := n) (k := k) (fun i a b c => by
      simp only [Bool.and_eq_true, decide_eq_true_eq] at c
      have := h1 i a b c.1
      omega) (fun i j a b c d e f => by
      simp only [Bool.and_eq_true, decide_eq_true_eq] at e f
      exact h2 i j a b c d e.1 f.1)
    by_cases q : ∃ i, k ≤ i ∧ i < k + n ∧ P i = true ∧ g i = m
    · obtain ⟨i, a, b, c, d⟩ := q
      have one := cnt_one (P := P) (P' := fun i => P i && decide (g i ≠ m)) (e := i) a b (fun j a' b' c' => by
        cases pj : P j with
        | false => rfl
        | true =>
          show (true && decide (g j ≠ m)) = true
          simp only [Bool.true_and, decide_eq_true_eq]
          intro z
          exact c' (h2 j i a' b' a b pj c (z.trans d.symm)))
      rw [if_pos c] at one
      have : ∀ z : Bool, (if z = true then 1 else 0) ≤ 1 := fun z => by cases z <;> decide
      have := this (P i && decide (g i ≠ m))
      omega
    · have same : cnt P k n = cnt (fun i => P i && decide (g i ≠ m)) k n := cnt_cong (fun i a b => by
        cases pi : P i with
        | false => rfl
        | true =>
          show true = (true && decide (g i ≠ m))
          have : g i ≠ m := fun z => q ⟨i, a, b, pi, z⟩
          simp [this])
      omega
theorem Rel.eqc {wk : Option Nat} {U : NodV} {V : MemV} {H : OneV} {W : WkV} {D : RowV} {n : Nat} (r : Rel wk U V H W D n) (x : Int32) {nm ym : Int32} (hn : Nm nm ym) : chQ D x ym = f_X1_find V x nm := by
  unfold chQ f_X1_find
  rw [show (128 : Nat) = 64 + 64 from rfl, fst_ext (fun k h1 h2 => by
    rw [r.B.th0 (by omega) (fun z => by omega)]
    simp)]
  refine fst_cong (fun k _ hk => ?_)
  by_cases q : V 1 k = 0
  · rw [if_pos q, r.B.th0 (by omega) (fun _ => q)]
    simp
  · have en := r.B.en k (by omega) q
    rw [if_neg q, r.B.th1 (by omega) q, en.1]
    by_cases q2 : V 2 k = x
    · rw [if_pos q2]
      have iff := en.2.1.inj hn
      by_cases q3 : V 3 k = nm
      · rw [if_pos q3]
        simp [q2, iff.mp q3]
      · rw [if_neg q3]
        have : ¬ D (701 + 9 * k + 2) = ym := fun z => q3 (iff.mpr z)
        simp [q2, this]
    · rw [if_neg q2]
      simp [q2]
theorem Rel.eqn {wk : Option Nat} {U : NodV} {V : MemV} {H : OneV} {W : WkV} {D : RowV} {n vol : Nat} (r : Rel wk U V H W D n) (hN : NodI U n vol) (x : Int32) {nm ym : Int32} (hn : Nm nm ym) : oI (ndQ D n x ym) = q_X2_find U x nm := by
  unfold ndQ q_X2_find
  rw [hN.evn, fst_cong (fun k _ hk => ?_)]
  have nd := r.B.nd k (by omega)
  rw [nd.2.2.2.1, nd.2.1]
  have iff := nd.2.2.1.inj hn
  by_cases q : U 4 k = 0
  · simp [q]
  · by_cases q3 : U 3 k = nm
    · simp [q, q3, iff.mp q3]
    · have : ¬ D (401 + 5 * k + 3) = ym := fun z => q3 (iff.mpr z)
      simp [q, q3, this]
theorem Inv.isE {V : MemV} {p : Nat} (p64 : p < 64) (p1 : ¬ V 1 p = 0) : q_X1_isEntry V (nI p) = 1 := by
  unfold q_X1_isEntry
  rw [if_neg (n64 p64).1, if_neg (n64 p64).2.2, ix64 p64, if_neg p1]
theorem find_o {V : MemV} {p : Nat} (p64 : p < 64) (p1 : ¬ V 1 p = 0) (nm : Int32) : q_X1_find V (nI p) nm = oI (f_X1_find V (nI p) nm) := by
  unfold q_X1_find
  rw [Inv.isE p64 p1, if_neg i10]
  rfl
def roots (V : MemV) : Nat := cnt (fun k => decide (V 1 k = 1 ∧ V 2 k = -1)) 0 64
theorem Inv.roots3 {U : NodV} {V : MemV} {H : OneV} {W : WkV} {n vol t T : Nat} {x : Nat → Nat} (i : Inv U V H W n vol t T x) : roots V ≤ 3 := by
  unfold roots
  refine cnt_inj (g := fun k => if V 9 0 = nI k then 0 else if V 9 1 = nI k then 1 else 2) 3 (fun k _ _ _ => ?_) (fun a b _ ha _ hb pa pb e => ?_)
  · show (if V 9 0 = nI k then 0 else if V 9 1 = nI k then 1 else 2) < 3
    split
    · omega
    · split <;> omega
  · simp only [decide_eq_true_eq] at pa pb
    have f : ∀ c, c < 64 → V 1 c = 1 ∧ V 2 c = -1 → V 9 (if V 9 0 = nI c then 0 else if V 9 1 = nI c then 1 else 2) = nI c := by
      intro c hc pc
      obtain ⟨v, v3, hv⟩ := i.M.ro c hc pc.1 pc.2
      by_cases q0 : V 9 0 = nI c
      · rw [if_pos q0]; exact q0
      · rw [if_neg q0]
        by_cases q1 : V 9 1 = nI c
        · rw [if_pos q1]; exact q1
        · rw [if_neg q1]
          have : v = 2 := by
            rcases (show v = 0 ∨ v = 1 ∨ v = 2 by omega) with z | z | z
            · subst z; exact absurd hv q0
            · subst z; exact absurd hv q1
            · exact z
          subst this
          exact hv
    have fa := f a (by omega) pa
    have fb := f b (by omega) pb
    have e : (if V 9 0 = nI a then 0 else if V 9 1 = nI a then 1 else 2) = if V 9 0 = nI b then 0 else if V 9 1 = nI b then 1 else 2 := e
    rw [e] at fa
    exact (nI_eq (by omega) (by omega)).mp (fa.symm.trans fb)
theorem cnt_split {P Q R : Nat → Bool} : ∀ {n k : Nat}, (∀ i, k ≤ i → i < k + n → (if P i = true then 1 else 0) = (if Q i = true then 1 else 0) + (if R i = true then 1 else 0)) → cnt P k n = cnt Q k n + cnt R k n
  | 0, k, _ => rfl
  | n + 1, k, h => by
    unfold cnt
    rw [h k (Nat.le_refl _) (by omega), cnt_split (P := P) (Q := Q) (R := R) (fun i a b => h i (by omega) (by omega))]
    omega
theorem Inv.nc_b {U : NodV} {V : MemV} {H : OneV} {W : WkV} {n vol t T : Nat} {x : Nat → Nat} (i : Inv U V H W n vol t T x) : nc V = c_X1_howManyButRoots V + roots V := by
  unfold nc c_X1_howManyButRoots roots
  refine cnt_split (fun k _ hk => ?_)
  rcases i.M.st k (by omega) with s | s | s
  · simp [s]
  · by_cases q : V 2 k = -1
    · simp [s, q]
    · simp [s, q]
  · simp [s, (i.M.go k (by omega) s).1]
theorem Rel.many {wk : Option Nat} {U : NodV} {V : MemV} {H : OneV} {W : WkV} {D : RowV} {n vol t T : Nat} {x : Nat → Nat} (r : Rel wk U V H W D n) (i : Inv U V H W n vol t T x) : cnt (emB D (decide (¬ (0 : Int32) = 0))) 0 128 = c_X1_howManyButRoots V := by
  unfold c_X1_howManyButRoots
  rw [show (128 : Nat) = 64 + 64 from rfl, cnt_add, cnt_zero (k := 0 + 64) (fun k h1 h2 => by
    unfold emB thQ
    rw [r.B.th0 (by omega) (fun z => by omega)]
    simp), Nat.add_zero]
  refine cnt_cong (fun k _ hk => ?_)
  unfold emB thQ
  rcases i.M.st k (by omega) with s | s | s
  · rw [r.B.th0 (by omega) (fun _ => s)]
    simp [s]
  · rw [r.B.th1 (by omega) (by rw [s]; exact i10)]
    by_cases q : V 2 k = -1
    · obtain ⟨v, v3, v4⟩ := i.M.ro k (by omega) s q
      rw [(r.eqr (nI k)).mpr ⟨v, v3, v4⟩]
      simp [s, q]
    · have nr : ¬ rtB D (nI k) = true := by
        rw [r.eqr]
        rintro ⟨v, v3, v4⟩
        rcases i.M.rt v v3 with ⟨y, _⟩ | ⟨_, f, q64, y1, y2, y3, _⟩
        · rw [y] at v4
          exact nI_m1 (show k < 2 ^ 31 by omega) v4.symm
        · have : f = k := (nI_eq (by omega) (by omega)).mp (y1.symm.trans v4)
          rw [this] at y3
          exact q y3
      simp [s, q, nr]
  · rw [r.B.th1 (by omega) (by rw [s]; exact i20)]
    have nr : ¬ rtB D (nI k) = true := by
      rw [r.eqr]
      rintro ⟨v, v3, v4⟩
      rcases i.M.rt v v3 with ⟨y, _⟩ | ⟨_, f, q64, y1, y2, y3, _⟩
      · rw [y] at v4
        exact nI_m1 (show k < 2 ^ 31 by omega) v4.symm
      · have : f = k := (nI_eq (by omega) (by omega)).mp (y1.symm.trans v4)
        rw [this, s] at y2
        exact absurd y2 (by decide)
    simp [s, nr]
/-- an absence is held by none -/
theorem Inv.ab {U : NodV} {V : MemV} {H : OneV} {W : WkV} {n vol t T : Nat} {x : Nat → Nat} (i : Inv U V H W n vol t T x) {e : Nat} (he : e < 64) (h4 : V 4 e = -1) : hc V H W e = 0 := by
  have n60 := i.N.n60
  have nf : ¬ ∃ k, k < n ∧ V 4 e = nI k := fun ⟨k, k1, k2⟩ => by
    rw [h4] at k2
    exact nI_m1 (show k < 2 ^ 31 by omega) k2.symm
  have h1 : hcC V e = 0 := by
    refine cnt_zero (fun k _ hk => ?_)
    simp only [decide_eq_false_iff_not]
    rintro ⟨q1, q2⟩
    rcases i.M.st k (by omega) with z | z | z
    · exact q1 z
    · obtain ⟨p, p64, z1, z2, z3, _⟩ := i.M.ch k (by omega) z (by rw [q2]; exact nI_m1 (by omega))
      have : p = e := (nI_eq (by omega) (by omega)).mp (z1.symm.trans q2)
      rw [this] at z3
      obtain ⟨f, f1, f2, _⟩ := i.N.fo z3
      exact nf ⟨f, f1, f2⟩
    · rw [(i.M.go k (by omega) z).1] at q2
      exact absurd q2.symm (nI_m1 (by omega))
  have h2 : hcV V e = 0 := by
    refine cnt_zero (fun v _ hv => ?_)
    simp only [decide_eq_false_iff_not]
    intro q
    obtain ⟨f, f1, f2, _⟩ := i.N.fo (i.M.ok (by omega) he q).2.2.2.2
    exact nf ⟨f, f1, f2⟩
  have h3 : hcH H e = 0 := by
    refine cnt_zero (fun k _ hk => ?_)
    simp only [decide_eq_false_iff_not]
    intro q
    rcases i.H k (by omega) with z | ⟨f, f64, z1, z2, z3⟩
    · rw [z] at q
      exact absurd q.symm (nI_m1 (by omega))
    · have : f = e := (nI_eq (by omega) (by omega)).mp (z1.symm.trans q)
      rw [this] at z3
      exact z3 h4
  have h5 : hcW W e = 0 := by
    refine sm_zero (fun k _ hk => ?_)
    unfold hcK
    by_cases q : bz ((W k).1 0 5) = 0 ∨ bz ((W k).1 0 6) = 0
    · rw [if_pos q]
    · rw [if_neg q]
      obtain ⟨m, d, l, r, hr, hw⟩ := i.W k (by omega) (fun z => q (Or.inl z))
      have := hw.md
      have := hw.dl
      have := hw.l12
      rw [hw.m, ix_nI (by omega)]
      refine cnt_zero (fun j _ hj => ?_)
      simp only [decide_eq_false_iff_not]
      intro z
      obtain ⟨f, f64, g1, _, g2⟩ := (hw.wy j (by omega)).ex
      have : f = e := (nI_eq (by omega) (by omega)).mp (g1.symm.trans z)
      rw [this] at g2
      exact (g2 (fun z => q (Or.inr z))).2 h4
  unfold hc
  omega
/-- where nothing but one entry is free, there are 61 at most -/
theorem Inv.few {U : NodV} {V : MemV} {H : OneV} {W : WkV} {n vol t T : Nat} {x : Nat → Nat} (i : Inv U V H W n vol t T x) (hx : ∀ e, e < 64 → ¬ x e = 0 → ¬ V 4 e = -1) {b : Nat} (hb : b < 64) (hf : ∀ j, j < 64 → ¬ Fre V (nI b) j) : nc V ≤ 61 := by
  have n60 := i.N.n60
  have nod : ∀ k, k < 64 → ¬ V 1 k = 0 → k ≠ b → ∃ j, j < n ∧ V 4 k = nI j := by
    intro k hk h1 hne
    rcases i.M.st k hk with z | z | z
    · exact absurd z h1
    · by_cases q : V 2 k = -1
      · obtain ⟨v, rr, _, _, _, r1, r2, _⟩ := i.M.rn i.N hk z q
        exact ⟨rr, r1, r2⟩
      · have h5 : ¬ V 5 k = 0 := fun y => hf k hk ⟨z, y, q, fun w => hne ((nI_eq (by omega) (by omega)).mp w)⟩
        have h4 : ¬ V 4 k = -1 := fun y => by
          have := i.ab hk y
          have hxk : x k = 0 := by
            by_cases w : x k = 0
            · exact w
            · exact absurd y (hx k hk w)
          exact h5 ((i.hz hk h1).mpr ⟨this, hxk⟩)
        obtain ⟨p, _, _, _, _, p5⟩ := i.M.ch k hk z q
        rcases i.N.fd (V 4 p) (V 3 k) with ⟨y, _⟩ | ⟨j, j1, j2, _⟩
        · rw [p5, y] at h4
          exact absurd rfl h4
        · exact ⟨j, j1, p5.trans j2⟩
    · obtain ⟨_, j, j1, j2, _⟩ := i.M.go k hk z
      exact ⟨j, j1, j2⟩
  have one := cnt_one (P := fun k => decide (¬ V 1 k = 0)) (P' := fun k => decide (¬ V 1 k = 0 ∧ k ≠ b)) (e := b) (n := 64) (k := 0) (Nat.zero_le _) (by omega) (fun j _ _ q => by simp [q])
  have le := cnt_inj (g := fun k => ix (V 4 k)) n (P := fun k => decide (¬ V 1 k = 0 ∧ k ≠ b)) (n := 64) (k := 0) (fun k _ hk pk => by
    simp only [decide_eq_true_eq] at pk
    obtain ⟨j, j1, j2⟩ := nod k (by omega) pk.1 pk.2
    show ix (V 4 k) < n
    rw [j2, ix_nI (by omega)]
    exact j1) (fun a c _ ha _ hc pa pc e => by
    simp only [decide_eq_true_eq] at pa pc
    obtain ⟨j, j1, j2⟩ := nod a (by omega) pa.1 pa.2
    obtain ⟨k, k1, k2⟩ := nod c (by omega) pc.1 pc.2
    have e : ix (V 4 a) = ix (V 4 c) := e
    rw [j2, k2, ix_nI (by omega), ix_nI (by omega)] at e
    exact i.M.nd a c (by omega) (by omega) pa.1 pc.1 (by rw [j2]; exact nI_m1 (by omega)) (by rw [j2, k2, e]))
  have b1 : (if decide (¬ V 1 b = 0) = true then 1 else 0) ≤ 1 := by split <;> omega
  have b0 : (if decide (¬ V 1 b = 0 ∧ b ≠ b) = true then 1 else 0) = 0 := by simp
  rw [b0, Nat.add_zero] at one
  unfold nc
  omega
theorem lu_ex {V : MemV} (h : nc V ≤ 63) : ∃ e, f_X1_leastUnused V = some e := by
  cases q : f_X1_leastUnused V with
  | some e => exact ⟨e, rfl⟩
  | none =>
    have := fst_none q
    have all : nc V = 64 := by
      unfold nc
      have c := cnt_split (P := fun _ => true) (Q := fun k => decide (¬ V 1 k = 0)) (R := fun k => if V 1 k = 0 then true else false) (n := 64) (k := 0) (fun k _ _ => by
        by_cases z : V 1 k = 0
        · simp [z]
        · simp [z])
      rw [cnt_zero (P := fun k => if V 1 k = 0 then true else false) (fun k a b => this k a b), Nat.add_zero] at c
      rw [← c]
      decide
    omega
end
section
/-! A child is come to or loaded, on both sides. -/
def loV (V : MemV) : MemV := uv V 0 13 (V 0 13 + 1)
theorem loV_k (V : MemV) (r : Fin 12) (h : r ≠ 0) : loV V r = V r := uv_k _ _ _ _ _ h
theorem loV_0 (V : MemV) {k : Nat} (h : k ≠ 13) : loV V 0 k = V 0 k := uv_n _ _ _ _ _ _ (fun q => h q.2)
theorem Inv.lo {U : NodV} {V : MemV} {H : OneV} {W : WkV} {n vol t T : Nat} {x : Nat → Nat} (i : Inv U V H W n vol t T x) : Inv U (loV V) H W n vol t T x :=
  i.fr (loV_k V 1 (by decide)) (loV_k V 2 (by decide)) (loV_k V 3 (by decide)) (loV_k V 4 (by decide)) (loV_k V 5 (by decide)) (loV_k V 6 (by decide)) (loV_k V 8 (by decide)) (loV_k V 9 (by decide)) (loV_k V 10 (by decide)) (loV_0 V (by decide)) ((loV_0 V (by decide)).trans i.Z.tk) (Nat.le_refl _) (Nat.le_refl _) i.Z.tT i.Z.T30 (loV_0 V (by decide))
theorem Rel.lo {wk : Option Nat} {U : NodV} {V : MemV} {H : OneV} {W : WkV} {D : RowV} {n : Nat} (r : Rel wk U V H W D n) : Rel wk U (loV V) H W (sD D 1 (D 1 + 1)) n := by
  have o : ∀ i, i ≠ 1 → sD D 1 (D 1 + 1) i = D i := fun i a => sD_n _ _ a
  have k := loV_k V
  have b := r.B
  refine r.fr ⟨?_, ?_, ?_, ?_, ?_, ?_, ?_, ?_, ?_, ?_, ?_⟩ (fun i h1 h2 => o i (by omega)) (fun _ _ => ⟨loV_0 V (by decide), k 11 (by decide), fun f _ _ _ _ _ _ _ => ⟨by rw [k 8 (by decide)], by rw [k 6 (by decide)]⟩⟩)
  · rw [o 0 (by omega), loV_0 V (by decide)]; exact b.tk
  · rw [sD_s, b.lo]
    exact (uv_s V 0 13 _).symm
  · rw [o 2 (by omega), loV_0 V (by decide)]; exact b.tr
  · rw [o 3 (by omega), loV_0 V (by decide)]; exact b.rm
  · rw [o 4 (by omega)]; exact b.ev
  · intro v hv
    rw [o _ (by omega), k 9 (by decide)]; exact b.rt v hv
  · intro v hv
    rw [o _ (by omega), k 10 (by decide)]; exact b.ov v hv
  · intro v hv
    rw [o _ (by omega)]; exact b.ha v hv
  · intro j hj
    rw [o _ (by omega), o _ (by omega), o _ (by omega), o _ (by omega), o _ (by omega)]
    exact b.nd j hj
  · intro f hf
    rw [o _ (by omega), k 1 (by decide)]
    exact b.th f hf
  · intro f hf q
    rw [k 1 (by decide)] at q
    rw [o _ (by omega), o _ (by omega), o _ (by omega), o _ (by omega), o _ (by omega), o _ (by omega), o _ (by omega), o _ (by omega), k 1 (by decide), k 2 (by decide), k 3 (by decide), k 4 (by decide), k 6 (by decide), k 7 (by decide), k 8 (by decide), cov_fr (k 10 (by decide))]
    exact b.en f hf q
/-- an entry stays as it is -/
def Sta (V V' : MemV) (f : Nat) : Prop := V' 1 f = V 1 f ∧ V' 2 f = V 2 f ∧ V' 3 f = V 3 f ∧ V' 4 f = V 4 f ∧ V' 6 f = V 6 f ∧ V' 8 f = V 8 f
theorem Sta.refl (V : MemV) (f : Nat) : Sta V V f := ⟨rfl, rfl, rfl, rfl, rfl, rfl⟩
theorem Sta.trans {V V' V'' : MemV} {f : Nat} (h : Sta V V' f) (h' : Sta V' V'' f) : Sta V V'' f := ⟨h'.1.trans h.1, h'.2.1.trans h.2.1, h'.2.2.1.trans h.2.2.1, h'.2.2.2.1.trans h.2.2.2.1, h'.2.2.2.2.1.trans h.2.2.2.2.1, h'.2.2.2.2.2.trans h.2.2.2.2.2⟩
theorem Sta.come (V : MemV) (y : Int32) (f : Nat) : Sta V (gV_X1_comeTo V y) f := by
  refine ⟨?_, ?_, ?_, ?_, ?_, ?_⟩ <;> rw [cT_k _ _ _ (by decide) (by decide) (by decide)]
theorem CntI.le {V : MemV} (h : CntI V) : nc V ≤ 63 := by
  have : cnt (fun v => decide (¬ V 9 v = -1)) 1 2 ≤ 2 := cnt_le _ _ _
  unfold CntI at h
  unfold nc
  omega
theorem CntI.of {V : MemV} (h : nc V ≤ 61) : CntI V := by
  unfold CntI
  unfold nc at h
  omega
theorem CntI.fr {V V' : MemV} (h : CntI V) (e1 : V' 1 = V 1) (e9 : V' 9 = V 9) : CntI V' := by
  unfold CntI
  rw [e1, e9]
  exact h
/-- what a step of the memory gives -/
def Stq (wk : Option Nat) (U : NodV) (V V' : MemV) (H : OneV) (W : WkV) (D' : RowV) (n vol t T tl : Nat) (x : Nat → Nat) : Prop := Rel wk U V' H W D' n ∧ Inv U V' H W n vol t T x ∧ CntI V' ∧ TlI wk V' W tl ∧ V' 9 = V 9 ∧ V' 10 = V 10 ∧ V' 0 11 = V 0 11 ∧ ∀ f, f < 64 → ¬ V 1 f = 0 → ¬ x f = 0 → Sta V V' f
theorem nI_sub {a b : Nat} (h : b ≤ a) : nI a - nI b = nI (a - b) := by
  have : nI (a - b) + nI b = nI a := by rw [nI_add]; congr 1; omega
  rw [← this]
  exact Int32.add_sub_cancel _ _
theorem ix_sub {a b : Nat} (ha : a < 1000) (hb : b < 1000) : ix (nI a - nI b) = a - b := by
  by_cases q : b ≤ a
  · rw [nI_sub q, ix_nI (by omega)]
  · show (nI a - nI b).toInt.toNat = _
    rw [Int32.toInt_sub, nI_toInt (by omega), nI_toInt (by omega), Int.bmod_eq_of_le (by omega) (by omega)]
    omega
theorem Rel.childOf {wk : Option Nat} {U : NodV} {V : MemV} {H : OneV} {W : WkV} {D : RowV} {n vol t T : Nat} {x : Nat → Nat} (r : Rel wk U V H W D n) (i : Inv U V H W n vol t T x) (C : CntI V) (hx : ∀ e, e < 64 → ¬ x e = 0 → ¬ V 4 e = -1) {J : MJ} (h : RefL J) (I : MI) (hb : HB (I 188 20) x) (hw : I 188 21 = oI wk) (G : RowV) (c : Int32) (ht : TlI wk V W 0) {p : Nat} (p64 : p < 64) (p1 : V 1 p = 1) (pf : ¬ q_X2_isFolder U (V 4 p) = 0) {nm ym : Int32} (hn : Nm nm ym) (tT : t + 1 ≤ T) : ∃ D' G' e, M_X10_childOf [mR (some 188), mI (nI p), mI ym] (rF I D G c, J) = some (some (mI (nI e)), (rF I D' G' c, J)) ∧ q_X1_reach U V (nI p) nm = nI e ∧ e < 64 ∧ Stq wk U V (gV_X1_reach U V (nI p) nm) H W D' n vol (t + 1) T 1 x ∧ gV_X1_reach U V (nI p) nm 1 e = 1 ∧ gV_X1_reach U V (nI p) nm 2 e = nI p ∧ gV_X1_reach U V (nI p) nm 3 e = nm ∧ gV_X1_reach U V (nI p) nm 4 e = q_X2_find U (V 4 p) nm ∧ gV_X1_reach U V (nI p) nm 4 p = V 4 p ∧ gV_X1_reach U V (nI p) nm 1 p = 1 := by
  have p0 : ¬ V 1 p = 0 := by rw [p1]; exact i10
  have n60 := i.N.n60
  have T30 := i.Z.T30
  have ch := w_childHere h (rF I D G c) (nI p) ym
  rw [rF_D, r.eqc (nI p) hn] at ch
  have fo := find_o (V := V) p64 p0 nm
  rw [E_X10_childOf]
  simp only [h.kt, if_true, ch, Option.bind_some, asI_I]
  unfold q_X1_reach gV_X1_reach
  cases q : f_X1_find V (nI p) nm with
  | some e =>
    obtain ⟨e64, e0, e2, e3⟩ := fd_some q
    rw [q] at fo
    rw [fo]
    have ne : ¬ oI (some e) = -1 := nI_m1 (by omega)
    rw [if_neg ne, if_neg ne, if_neg ne]
    obtain ⟨D', d1, d2, d3, d4⟩ := r.come n60 h I hw G c ht (by decide) e64 e0
    have e1 : V 1 e = 1 := by
      rcases i.M.st e e64 with z | z | z
      · exact absurd z e0
      · exact z
      · rw [(i.M.go e e64 z).1] at e2
        exact absurd e2.symm (nI_m1 (by omega))
    have k : ∀ r : Fin 12, r ≠ 0 → r ≠ 7 → r ≠ 11 → gV_X1_comeTo V (nI e) r = V r := cT_k V (nI e)
    obtain ⟨p', pp1, pp2, pp3, pp4, pp5⟩ := i.M.ch e e64 e1 (by rw [e2]; exact nI_m1 (by omega))
    have : p' = p := (nI_eq (by omega) (by omega)).mp (pp2.symm.trans e2)
    subst this
    refine ⟨D', G, e, ?_, rfl, e64, ⟨d2, i.come e64 tT, C.fr (k 1 (by decide) (by decide) (by decide)) (k 9 (by decide) (by decide) (by decide)), d3, k 9 (by decide) (by decide) (by decide), k 10 (by decide) (by decide) (by decide), cT_0 _ _ _ (by decide) (by decide), fun f _ _ _ => Sta.come V _ f⟩, ?_, ?_, ?_, ?_, ?_, ?_⟩
    · show ((M_X10_comesTo [mR (some 188), mI (nI e)] (rF I D G c, J)).bind _) = _
      rw [d1]
      rfl
    · show gV_X1_comeTo V (nI e) 1 e = 1
      rw [k 1 (by decide) (by decide) (by decide)]; exact e1
    · show gV_X1_comeTo V (nI e) 2 e = _
      rw [k 2 (by decide) (by decide) (by decide)]; exact e2
    · show gV_X1_comeTo V (nI e) 3 e = _
      rw [k 3 (by decide) (by decide) (by decide)]; exact e3
    · show gV_X1_comeTo V (nI e) 4 e = _
      rw [k 4 (by decide) (by decide) (by decide), pp5, e3]
    · show gV_X1_comeTo V (nI e) 4 p' = _
      rw [k 4 (by decide) (by decide) (by decide)]
    · show gV_X1_comeTo V (nI e) 1 p' = _
      rw [k 1 (by decide) (by decide) (by decide)]; exact p1
  | none =>
    rw [q] at fo
    rw [fo, if_pos (show oI none = -1 from rfl), if_pos (show oI none = -1 from rfl), if_pos (show oI none = -1 from rfl)]
    obtain ⟨e, lu⟩ := lu_ex C.le
    obtain ⟨e64, e0, _⟩ := lu_some lu
    have ep : p ≠ e := fun z => p0 (by rw [z]; exact e0)
    have no : q_X1_nodeOf V (nI p) = V 4 p := by
      unfold q_X1_nodeOf
      rw [Inv.isE p64 p0, if_neg i10, ix64 p64]
    have en := r.B.en p p64 p0
    have hq := ad_q lu (nI p) nm (q_X2_find U (V 4 p) nm)
    have ne : ¬ nI e = -1 := nI_m1 (by omega)
    rw [no, hq, if_neg ne, if_neg ne]
    obtain ⟨D1, d1, d2, d3, d4⟩ := r.makes n60 h I hw G c ht lu (fun v hv z => by
      have := (i.M.ok hv e64 z).2.2.1
      rw [e0] at this
      exact i01 this) (nI p) nm (q_X2_find U (V 4 p) nm) (Or.inl hn)
    have i1 := (i.add lu p64 p1 pf q tT).lo
    have r1 := d2.lo
    have a1 := ad_1 lu (nI p) nm (q_X2_find U (V 4 p) nm)
    have a2 := ad_2 lu (nI p) nm (q_X2_find U (V 4 p) nm)
    have a3 := ad_3 lu (nI p) nm (q_X2_find U (V 4 p) nm)
    have a4 := ad_4 lu (nI p) nm (q_X2_find U (V 4 p) nm)
    have a6 := ad_6 lu (nI p) nm (q_X2_find U (V 4 p) nm)
    have a8 := ad_8 lu (nI p) nm (q_X2_find U (V 4 p) nm)
    have a9 := ad_k lu (nI p) nm (q_X2_find U (V 4 p) nm) 9 (Or.inl rfl)
    have a10 := ad_k lu (nI p) nm (q_X2_find U (V 4 p) nm) 10 (Or.inr rfl)
    have al := ad_0 lu (nI p) nm (q_X2_find U (V 4 p) nm) 11 (by decide) (by decide)
    have atl : ∀ k, wk = some k → gV_X1_add V (nI p) nm (q_X2_find U (V 4 p) nm) 11 0 = nI e ∧ gV_X1_add V (nI p) nm (q_X2_find U (V 4 p) nm) 0 16 = nI 1 := fun k z => by
      have y := ad_tl lu (nI p) nm (q_X2_find U (V 4 p) nm) (ht k z).1 (by decide)
      exact ⟨by rw [y.2 0, if_pos rfl], y.1⟩
    generalize hA : gV_X1_add V (nI p) nm (q_X2_find U (V 4 p) nm) = A at d2 d3 i1 r1 a1 a2 a3 a4 a6 a8 a9 a10 al atl
    have hp : ∀ f, f < 64 → ¬ nI f = nI e → pnd wk (loV A) W f = 0 := by
      intro f hf hne
      rw [pnd_fr (V := A) (loV_0 A (by decide)) (loV_k A _ (by decide))]
      unfold pnd
      cases wk with
      | none => rfl
      | some w =>
        show (if bz ((W w).1 0 6) = 0 then 0 else _) = 0
        by_cases z : bz ((W w).1 0 6) = 0
        · rw [if_pos z]
        · rw [if_neg z, (atl w rfl).2, ix_nI (by decide)]
          show (if decide (A 11 0 = nI f) = true then 1 else 0) + 0 = 0
          rw [(atl w rfl).1, if_neg (by simp only [decide_eq_true_eq]; exact fun y => hne y.symm)]
    have B1 : ∀ j, loV A 1 j = if j = e then 1 else V 1 j := fun j => by rw [loV_k A 1 (by decide), a1]
    have B2 : ∀ j, loV A 2 j = if j = e then nI p else V 2 j := fun j => by rw [loV_k A 2 (by decide), a2]
    have B3 : ∀ j, loV A 3 j = if j = e then nm else V 3 j := fun j => by rw [loV_k A 3 (by decide), a3]
    have B4 : ∀ j, loV A 4 j = if j = e then q_X2_find U (V 4 p) nm else V 4 j := fun j => by rw [loV_k A 4 (by decide), a4]
    have B6 : ∀ j, loV A 6 j = if j = e then 0 else V 6 j := fun j => by rw [loV_k A 6 (by decide), a6]
    have B8 : ∀ j, loV A 8 j = if j = e then V 0 12 else V 8 j := fun j => by rw [loV_k A 8 (by decide), a8]
    have Btl : TlI wk (loV A) W 1 := fun k z => by
      obtain ⟨y1, y2⟩ := d3 k z
      exact ⟨by rw [loV_0 A (by decide)]; exact y1, y2⟩
    have B9 : loV A 9 = V 9 := by rw [loV_k A 9 (by decide), a9]
    have B10 : loV A 10 = V 10 := by rw [loV_k A 10 (by decide), a10]
    have Bl : loV A 0 11 = V 0 11 := by rw [loV_0 A (by decide), al]
    have em := w_entryMany h (rF I (sD D1 1 (D1 1 + 1)) G c) 0
    rw [rF_D, r1.many i1] at em
    have hB : uv A 0 13 (A 0 13 + 1) = loV A := rfl
    rw [hB]
    have bcnt := i1.nc_b
    have b64 : c_X1_howManyButRoots (loV A) ≤ 64 := cnt_le _ _ _
    have broots := i1.roots3
    obtain ⟨l, l1, l2, l3⟩ := i1.Z.li
    have rm3 : sD D1 1 (D1 1 + 1) 3 = nI l := r1.B.rm.trans l1
    generalize loV A = B at B1 B2 B3 B4 B6 B8 B9 B10 Bl Btl em bcnt b64 broots l1 i1 r1 hp
    have sh : gV_X1_shrink B (nI e) = lp_X1_shrink_12 (nI e) (nI (c_X1_howManyButRoots B) - nI l) (ix (nI (c_X1_howManyButRoots B) - nI l)) 0 B := by
      unfold gV_X1_shrink o_X1_shrink q_X1_howManyButRoots ql_X1_howManyButRoots
      rw [l1]
    have ixs : ix (nI (c_X1_howManyButRoots B) - nI l) = c_X1_howManyButRoots B - l := ix_sub (by omega) (by omega)
    obtain ⟨D', G', k', s1, s2, s3, s4, s5, s6, s7, s8⟩ := r1.trims i1 h I hb G c (nI e) (nI (c_X1_howManyButRoots B) - nI l) (nI (c_X1_howManyButRoots B) - nI l) (by rw [ixs]; omega) hp
    rw [← sh] at s2 s3 s4 s5 s6 s7 s8
    have xe : x e = 0 := (i.L e e64).1 e0
    have ne_x : ∀ f, ¬ x f = 0 → f ≠ e := fun f z y => z (by rw [y]; exact xe)
    have e1' : gV_X1_shrink B (nI e) 1 e = 1 := by rw [s5 e e64 rfl, B1, if_pos rfl]
    have e2' : gV_X1_shrink B (nI e) 2 e = nI p := by rw [s4.1 2 (by decide) (by decide) (by decide), B2, if_pos rfl]
    have hx' : ∀ f, f < 64 → ¬ x f = 0 → ¬ gV_X1_shrink B (nI e) 4 f = -1 := by
      intro f hf z
      rw [s4.1 4 (by decide) (by decide) (by decide), B4, if_neg (ne_x f z)]
      exact hx f hf z
    refine ⟨D', G', e, ?_, rfl, e64, ⟨s2, s3, ?_, ?_, ?_, ?_, ?_, ?_⟩, e1', e2', ?_, ?_, ?_, ?_⟩
    · simp only [w_its h _ 3 (show (3 : Int32) = nI 3 from rfl) (show p < 128 by omega) (by decide), Option.bind_some, asI_I, rF_D, en.2.2.1]
      have hni := w_nodeIn h (rF I D G c) (n := n) (by rw [rF_D, r.B.ev, i.N.ev]) n60 (V 4 p) ym
      rw [rF_D, r.eqn i.N (V 4 p) hn] at hni
      simp only [hni, Option.bind_some, asI_I, d1, h.f18, h.ldD _ (show (1 : Int32) = nI 1 from rfl) (by decide), h.stD _ _ (show (1 : Int32) = nI 1 from rfl) (by decide), rF_D, rF_sD, h.kt, if_true, em, h.ldD _ (show (3 : Int32) = nI 3 from rfl) (by decide), rm3, s1]
    · rcases s8 with z | z
      · refine CntI.of ?_
        rw [ixs] at z
        omega
      · exact CntI.of (s3.few hx' e64 z)
    · intro k z
      obtain ⟨y1, y2⟩ := Btl k z
      exact ⟨by rw [s4.2.1 16 (by decide)]; exact y1, y2⟩
    · rw [s4.1 9 (by decide) (by decide) (by decide)]; exact B9
    · rw [s4.1 10 (by decide) (by decide) (by decide)]; exact B10
    · rw [s4.2.1 11 (by decide)]; exact Bl
    · intro f hf f1 fx
      have fe := ne_x f fx
      have f1' : gV_X1_shrink B (nI e) 1 f = V 1 f := by
        rcases s4.2.2 f hf with z | z
        · exact absurd ((s3.L f hf).1 z) fx
        · rw [z, B1, if_neg fe]
      refine ⟨f1', ?_, ?_, ?_, ?_, ?_⟩
      · rw [s4.1 2 (by decide) (by decide) (by decide), B2, if_neg fe]
      · rw [s4.1 3 (by decide) (by decide) (by decide), B3, if_neg fe]
      · rw [s4.1 4 (by decide) (by decide) (by decide), B4, if_neg fe]
      · rw [s4.1 6 (by decide) (by decide) (by decide), B6, if_neg fe]
      · rw [s4.1 8 (by decide) (by decide) (by decide), B8, if_neg fe]
    · rw [s4.1 3 (by decide) (by decide) (by decide), B3, if_pos rfl]
    · rw [s4.1 4 (by decide) (by decide) (by decide), B4, if_pos rfl]
    · rw [s4.1 4 (by decide) (by decide) (by decide), B4, if_neg ep]
    · obtain ⟨p', pp1, pp2, pp3, _⟩ := s3.M.ch e e64 e1' (by rw [e2']; exact nI_m1 (by omega))
      have : p' = p := (nI_eq (by omega) (by omega)).mp (pp2.symm.trans e2')
      rw [this] at pp3
      exact pp3
end
section
/-! A step of a walk, on both sides. -/
theorem shrink_tsm (but y : Int32) : ∀ (nn k : Nat) (V : MemV), Tsm V (lp_X1_shrink_12 but y nn k V)
  | 0, k, V => Tsm.refl V
  | nn + 1, k, V => by
    show Tsm V (if q_X1_longestUnused V but = -1 then V else _)
    by_cases q : q_X1_longestUnused V but = -1
    · rw [if_pos q]; exact Tsm.refl V
    · rw [if_neg q]
      rcases lu_q V but with ⟨z, _⟩ | ⟨e, e64, z, _⟩
      · exact absurd z q
      · rw [z]
        exact (Tsm.tr V e64).trans (shrink_tsm but y nn (k + 1) (trV V e))
theorem reach_tl {U : NodV} {V : MemV} {x nm : Int32} {e : Nat} (h : q_X1_reach U V x nm = nI e) (he : e < 64) (h0 : V 0 16 = nI 0) : gV_X1_reach U V x nm 0 16 = nI 1 ∧ gV_X1_reach U V x nm 11 0 = nI e := by
  unfold q_X1_reach at h
  unfold gV_X1_reach
  have ne : ¬ nI e = -1 := nI_m1 (by omega)
  by_cases q : q_X1_find V x nm = -1
  · rw [if_pos q] at h ⊢
    by_cases z : q_X1_add V x nm (q_X2_find U (q_X1_nodeOf V x) nm) = -1
    · rw [if_pos z, z] at h
      exact absurd h.symm ne
    · rw [if_neg z] at h ⊢
      cases lu : f_X1_leastUnused V with
      | none =>
        have : q_X1_add V x nm (q_X2_find U (q_X1_nodeOf V x) nm) = -1 := by
          unfold q_X1_add q_X1_leastUnused ql_X1_leastUnused
          rw [lu, if_pos (by decide)]
        exact absurd this z
      | some f =>
        have fe : f = e := by
          rw [ad_q lu] at h
          exact (nI_eq (by have := (lu_some lu).1; omega) (by omega)).mp h
        subst fe
        have tl := ad_tl lu x nm (q_X2_find U (q_X1_nodeOf V x) nm) h0 (by decide)
        have ts : ∀ B b, Tsm B (gV_X1_shrink B b) := fun B b => shrink_tsm _ _ _ _ B
        have t1 := ts (uv (gV_X1_add V x nm (q_X2_find U (q_X1_nodeOf V x) nm)) 0 13 (gV_X1_add V x nm (q_X2_find U (q_X1_nodeOf V x) nm) 0 13 + 1)) (q_X1_add V x nm (q_X2_find U (q_X1_nodeOf V x) nm))
        rw [t1.2.1 16 (by decide), t1.1 11 (by decide) (by decide) (by decide), uv_n _ _ _ _ _ _ (by decide), uv_k _ _ _ _ _ (by decide), tl.1, tl.2 0, if_pos rfl]
        exact ⟨rfl, rfl⟩
  · rw [if_neg q] at h ⊢
    rw [h]
    have tl := cT_tl V he h0 (by decide)
    rw [tl.1, tl.2 0, if_pos rfl]
    exact ⟨rfl, rfl⟩
/-- where a walk may be -/
def At (V : MemV) (a : Nat) : Prop := a < 64 ∧ V 1 a = 1 ∧ ¬ V 4 a = -1
theorem At.come {V : MemV} {a : Nat} (h : At V a) (y : Int32) : At (gV_X1_comeTo V y) a := by
  refine ⟨h.1, ?_, ?_⟩
  · rw [cT_k _ _ _ (by decide) (by decide) (by decide)]; exact h.2.1
  · rw [cT_k _ _ _ (by decide) (by decide) (by decide)]; exact h.2.2
theorem MemI.at_p {U : NodV} {V : MemV} {n vol : Nat} (h : MemI U V n vol) (hN : NodI U n vol) {a : Nat} (a64 : a < 64) (a1 : V 1 a = 1) (a2 : ¬ V 2 a = -1) : ∃ p, V 2 a = nI p ∧ At V p := by
  obtain ⟨p, p64, p1, p2, p3, _⟩ := h.ch a a64 a1 a2
  obtain ⟨k, k1, k2, _⟩ := hN.fo p3
  have := hN.n60
  exact ⟨p, p1, p64, p2, by rw [k2]; exact nI_m1 (by omega)⟩
/-- the trail that a step leaves -/
def Trl (V' : MemV) (a a' tl : Nat) : Prop := V' 0 16 = nI tl ∧ tl ≤ 2 ∧ (tl = 0 → a' = a) ∧ (0 < tl → V' 11 (tl - 1) = nI a') ∧ ∀ j, j < tl → ∃ f, V' 11 j = nI f ∧ At V' f
theorem Stq.refl {wk : Option Nat} {U : NodV} {V : MemV} {H : OneV} {W : WkV} {D : RowV} {n vol t T tl : Nat} {x : Nat → Nat} (r : Rel wk U V H W D n) (i : Inv U V H W n vol t T x) (C : CntI V) (ht : TlI wk V W tl) : Stq wk U V V H W D n vol t T tl x := ⟨r, i, C, ht, rfl, rfl, rfl, fun f _ _ _ => Sta.refl V f⟩
theorem Stq.come {wk : Option Nat} {U : NodV} {V V' : MemV} {H : OneV} {W : WkV} {D : RowV} {n vol t T tl : Nat} {x : Nat → Nat} (s : Stq wk U V V' H W D n vol t T tl x) (tl2 : tl < 2) {J : MJ} (h : RefL J) (I : MI) (hw : I 188 21 = oI wk) (G : RowV) (c : Int32) (tT : t + 1 ≤ T) {e : Nat} (he : e < 64) (e1 : ¬ V' 1 e = 0) : ∃ D', M_X10_comesTo [mR (some 188), mI (nI e)] (rF I D G c, J) = some (none, (rF I D' G c, J)) ∧ Stq wk U V (gV_X1_comeTo V' (nI e)) H W D' n vol (t + 1) T (tl + 1) x := by
  obtain ⟨r, i, C, ht, e9, e10, el, hs⟩ := s
  obtain ⟨D', d1, d2, d3, _⟩ := r.come i.N.n60 h I hw G c ht tl2 he e1
  have k : ∀ r : Fin 12, r ≠ 0 → r ≠ 7 → r ≠ 11 → gV_X1_comeTo V' (nI e) r = V' r := cT_k V' (nI e)
  exact ⟨D', d1, d2, i.come he tT, C.fr (k 1 (by decide) (by decide) (by decide)) (k 9 (by decide) (by decide) (by decide)), d3, (k 9 (by decide) (by decide) (by decide)).trans e9, (k 10 (by decide) (by decide) (by decide)).trans e10, (cT_0 _ _ _ (by decide) (by decide)).trans el, fun f a b c => (hs f a b c).trans (Sta.come V' _ f)⟩
theorem Rel.rv {wk : Option Nat} {U : NodV} {V : MemV} {H : OneV} {W : WkV} {D : RowV} {n : Nat} (r : Rel wk U V H W D n) {a : Nat} (a64 : a < 64) : f_X1_rootVolume V (nI a) = rootQ D (nI a) ∧ q_X1_rootVolume V (nI a) = oI (rootQ D (nI a)) := by
  have e : f_X1_rootVolume V (nI a) = rootQ D (nI a) := by
    unfold f_X1_rootVolume rootQ
    refine fst_cong (fun v _ hv => ?_)
    rw [if_neg (nI_m1 (by omega)), r.B.rt v (by omega)]
    by_cases z : V 9 v = nI a
    · simp [z]
    · simp [z]
  refine ⟨e, ?_⟩
  show oI (f_X1_rootVolume V (nI a)) = _
  rw [e]
theorem Rel.rQ {wk : Option Nat} {U : NodV} {V : MemV} {H : OneV} {W : WkV} {D : RowV} {n : Nat} (r : Rel wk U V H W D n) {a : Nat} : (∀ v, rootQ D (nI a) = some v → v < 3 ∧ V 9 v = nI a) ∧ (rootQ D (nI a) = none → ∀ v, v < 3 → ¬ V 9 v = nI a) := by
  refine ⟨fun v q => ?_, fun q v hv z => ?_⟩
  · obtain ⟨_, v3, v4, _⟩ := fst_some q
    have v4 : D (5 + v) = nI a := by simpa using v4
    exact ⟨by omega, by rw [← r.B.rt v (by omega)]; exact v4⟩
  · have := fst_none q v (Nat.zero_le _) (by omega)
    rw [r.B.rt v hv, z] at this
    simp at this
theorem Rel.goesUp {wk : Option Nat} {U : NodV} {V : MemV} {H : OneV} {W : WkV} {D : RowV} {n vol t T : Nat} {x : Nat → Nat} (r : Rel wk U V H W D n) (i : Inv U V H W n vol t T x) (C : CntI V) {J : MJ} (h : RefL J) (I : MI) (hw : I 188 21 = oI wk) (G : RowV) (ht : TlI wk V W 0) (h16 : V 0 16 = nI 0) {a : Nat} (ha : At V a) (tT : t + 2 ≤ T) : ∃ D' a' t' tl, M_X10_goesUp [mR (some 188)] (rF I D G (nI a), J) = some (none, (rF I D' G (nI a'), J)) ∧ q_X1_stepUp V (nI a) = nI a' ∧ Stq wk U V (gV_X1_stepUp V (nI a)) H W D' n vol t' T tl x ∧ t ≤ t' ∧ t' ≤ t + 2 ∧ At (gV_X1_stepUp V (nI a)) a' ∧ Trl (gV_X1_stepUp V (nI a)) a a' tl := by
  obtain ⟨a64, a1, a4⟩ := ha
  have a0 : ¬ V 1 a = 0 := by rw [a1]; exact i10
  have rv := (r.rv a64).2
  have ro := w_rootOf h (rF I D G (nI a)) (nI a)
  rw [rF_D] at ro
  rw [E_X10_goesUp]
  simp only [h.fi, rF_c, Option.bind_some, h.kt, if_true, ro, asI_I]
  unfold q_X1_stepUp gV_X1_stepUp
  rw [rv]
  cases q : rootQ D (nI a) with
  | none =>
    have a2 : ¬ V 2 a = -1 := fun z => by
      obtain ⟨v, v3, v4⟩ := i.M.ro a a64 a1 z
      exact r.rQ.2 q v v3 v4
    obtain ⟨p, p2, pa⟩ := i.M.at_p i.N a64 a1 a2
    have p0 : ¬ V 1 p = 0 := by rw [pa.2.1]; exact i10
    rw [if_neg (show ¬ oI none = 0 by decide), if_neg (show ¬ oI none = 0 by decide), if_neg (show ¬ oI none = 0 by decide), if_pos (show oI none = -1 from rfl), if_pos (show oI none = -1 from rfl), if_pos (show oI none = -1 from rfl), Inv.isE a64 a0, if_neg i10, if_neg i10, ix64 a64, p2, Inv.isE pa.1 p0, if_neg i10, if_neg i10]
    obtain ⟨D', d1, d2⟩ := (Stq.refl r i C ht).come (by decide) h I hw G (nI p) (by omega) pa.1 p0
    have tl := cT_tl V pa.1 h16 (by decide)
    refine ⟨D', p, t + 1, 1, ?_, ?_, d2, by omega, by omega, pa.come _, tl.1, by omega, fun z => by omega, fun _ => by rw [tl.2, if_pos rfl], fun j hj => ?_⟩
    · simp only [w_its h _ 1 (show (1 : Int32) = nI 1 from rfl) (show a < 128 by omega) (by decide), Option.bind_some, asI_I, rF_D, (r.B.en a a64 a0).1, p2, h.wi, rF_sc, rF_c, h.fi, h.kt, if_true, d1, asV_n]
    · rw [cT_k _ _ _ (by decide) (by decide) (by decide)]; exact p2
    · have : j = 0 := by omega
      subst this
      exact ⟨p, by rw [tl.2, if_pos rfl], pa.come _⟩
  | some v =>
    obtain ⟨v3, v9⟩ := r.rQ.1 v q
    by_cases z : v = 0
    · subst z
      rw [if_pos (show oI (some 0) = 0 from rfl), if_pos (show oI (some 0) = 0 from rfl), if_pos (show oI (some 0) = 0 from rfl)]
      exact ⟨D, a, t, 0, rfl, rfl, Stq.refl r i C ht, by omega, by omega, ⟨a64, a1, a4⟩, h16, by omega, fun _ => rfl, fun z => by omega, fun j hj => by omega⟩
    · have n0 : ¬ oI (some v) = 0 := nI_ne0 (by omega) (by omega)
      have n1 : ¬ oI (some v) = -1 := nI_m1 (by omega)
      obtain ⟨o, o64, o1, o2, o3, o4⟩ := i.M.ov v (by omega) v3 (by rw [v9]; exact nI_m1 (by omega))
      have o0 : ¬ V 1 o = 0 := by rw [o2]; exact i10
      obtain ⟨p, p2, pa⟩ := i.M.at_p i.N o64 o2 o3
      have p0 : ¬ V 1 p = 0 := by rw [pa.2.1]; exact i10
      have cb : q_X1_coveredBy V (oI (some v)) = nI o := by
        have ov : oI (some v) = nI v := rfl
        unfold q_X1_coveredBy
        rw [ov, if_neg (nI_pos (by omega)), if_neg (show ¬ (3 : Int32) ≤ nI v from nI_ge (b := 3) v3 (by decide)), ix_nI (by omega)]
        exact o1
      have k : ∀ r : Fin 12, r ≠ 0 → r ≠ 7 → r ≠ 11 → gV_X1_comeTo V (nI o) r = V r := cT_k V (nI o)
      have c2 : gV_X1_comeTo V (nI o) 2 (ix (nI o)) = nI p := by
        rw [k 2 (by decide) (by decide) (by decide), ix64 o64]; exact p2
      rw [if_neg n0, if_neg n0, if_neg n0, if_neg n1, if_neg n1, if_neg n1, cb, c2, Inv.isE (V := gV_X1_comeTo V (nI o)) o64 (by rw [k 1 (by decide) (by decide) (by decide)]; exact o0), if_neg i10, if_neg i10, Inv.isE (V := gV_X1_comeTo V (nI o)) pa.1 (by rw [k 1 (by decide) (by decide) (by decide)]; exact p0), if_neg i10, if_neg i10]
      obtain ⟨D1, d1, d2⟩ := (Stq.refl r i C ht).come (by decide) h I hw G (nI o) (by omega) o64 o0
      obtain ⟨D2, g1, g2⟩ := d2.come (by decide) h I hw G (nI p) (by omega) pa.1 (by rw [k 1 (by decide) (by decide) (by decide)]; exact p0)
      have tl := cT_tl V o64 h16 (by decide)
      have tl2 := cT_tl (gV_X1_comeTo V (nI o)) pa.1 tl.1 (by decide)
      have oa : At V o := by
        obtain ⟨kk, kk1, kk2, _⟩ := i.N.fo o4
        have := i.N.n60
        exact ⟨o64, o2, by rw [kk2]; exact nI_m1 (by omega)⟩
      refine ⟨D2, p, t + 2, 2, ?_, ?_, g2, by omega, by omega, (pa.come _).come _, tl2.1, by omega, fun z => by omega, fun _ => by rw [tl2.2, if_pos rfl], fun j hj => ?_⟩
      · have e8 : (8 : Int32) + nI v = nI (8 + v) := nI_add 8 v
        have o8 : D (8 + v) = nI o := (r.B.ov v v3).trans o1
        have en : D1 (701 + 9 * o + 1) = nI p := by
          rw [(d2.1.B.en o o64 (by rw [k 1 (by decide) (by decide) (by decide)]; exact o0)).1, k 2 (by decide) (by decide) (by decide)]
          exact p2
        simp only [h.f18, Option.bind_some, oI, h.ldD _ e8 (show 8 + v < 1853 by omega), rF_D, o8, h.wi, rF_sc, rF_c, h.fi, h.kt, if_true, d1, asV_n, w_its h _ 1 (show (1 : Int32) = nI 1 from rfl) (show o < 128 by omega) (by decide), asI_I, en, g1]
      · rw [cT_k _ _ _ (by decide) (by decide) (by decide)]; exact c2
      · rcases (show j = 0 ∨ j = 1 by omega) with z | z
        · subst z
          exact ⟨o, by rw [tl2.2, if_neg (by decide), tl.2, if_pos rfl], (oa.come _).come _⟩
        · subst z
          exact ⟨p, by rw [tl2.2, if_pos rfl], (pa.come _).come _⟩
end
section
/-! A step, a walk, on both sides. -/
def tz (V : MemV) : MemV := uv V 0 16 0
theorem tz_k (V : MemV) (r : Fin 12) (h : r ≠ 0) : tz V r = V r := uv_k _ _ _ _ _ h
theorem tz_0 (V : MemV) {k : Nat} (h : k ≠ 16) : tz V 0 k = V 0 k := uv_n _ _ _ _ _ _ (fun q => h q.2)
theorem tz_16 (V : MemV) : tz V 0 16 = nI 0 := uv_s V 0 16 0
theorem Inv.tzi {U : NodV} {V : MemV} {H : OneV} {W : WkV} {n vol t T : Nat} {x : Nat → Nat} (i : Inv U V H W n vol t T x) : Inv U (tz V) H W n vol t T x :=
  i.fr (tz_k V 1 (by decide)) (tz_k V 2 (by decide)) (tz_k V 3 (by decide)) (tz_k V 4 (by decide)) (tz_k V 5 (by decide)) (tz_k V 6 (by decide)) (tz_k V 8 (by decide)) (tz_k V 9 (by decide)) (tz_k V 10 (by decide)) (tz_0 V (by decide)) ((tz_0 V (by decide)).trans i.Z.tk) (Nat.le_refl _) (Nat.le_refl _) i.Z.tT i.Z.T30 (tz_0 V (by decide))
theorem CntI.tzi {V : MemV} (C : CntI V) : CntI (tz V) := C.fr (tz_k V 1 (by decide)) (tz_k V 9 (by decide))
theorem At.tzi {V : MemV} {a : Nat} (h : At V a) : At (tz V) a := ⟨h.1, by rw [tz_k V 1 (by decide)]; exact h.2.1, by rw [tz_k V 4 (by decide)]; exact h.2.2⟩
theorem RelB.fr {U : NodV} {V V' : MemV} {H : OneV} {D : RowV} {n : Nat} (b : RelB U V H D n) (k : ∀ r : Fin 12, r ≠ 0 → r ≠ 5 → r ≠ 11 → V' r = V r) (h0 : V' 0 11 = V 0 11 ∧ V' 0 12 = V 0 12 ∧ V' 0 13 = V 0 13 ∧ V' 0 14 = V 0 14) : RelB U V' H D n := by
  refine ⟨?_, ?_, ?_, ?_, b.ev, ?_, ?_, b.ha, b.nd, ?_, ?_⟩
  · rw [h0.2.1]; exact b.tk
  · rw [h0.2.2.1]; exact b.lo
  · rw [h0.2.2.2]; exact b.tr
  · rw [h0.1]; exact b.rm
  · rw [k 9 (by decide) (by decide) (by decide)]; exact b.rt
  · rw [k 10 (by decide) (by decide) (by decide)]; exact b.ov
  · rw [k 1 (by decide) (by decide) (by decide)]; exact b.th
  · intro f hf q
    rw [k 1 (by decide) (by decide) (by decide)] at q
    rw [k 1 (by decide) (by decide) (by decide), k 2 (by decide) (by decide) (by decide), k 3 (by decide) (by decide) (by decide), k 4 (by decide) (by decide) (by decide), k 6 (by decide) (by decide) (by decide), k 7 (by decide) (by decide) (by decide), k 8 (by decide) (by decide) (by decide), cov_fr (k 10 (by decide) (by decide) (by decide))]
    exact b.en f hf q
theorem Rel.tzi {U : NodV} {V : MemV} {H : OneV} {W : WkV} {D : RowV} {n : Nat} (r : Rel none U V H W D n) : Rel none U (tz V) H W D n :=
  r.fr (r.B.fr (fun r h0 _ _ => tz_k V r h0) ⟨tz_0 V (by decide), tz_0 V (by decide), tz_0 V (by decide), tz_0 V (by decide)⟩) (fun _ _ _ => rfl) (fun k z => by cases z)
theorem TlI.none (V : MemV) (W : WkV) (tl : Nat) : TlI none V W tl := fun k z => by cases z
theorem MemI.nk {U : NodV} {V : MemV} {n vol : Nat} (h : MemI U V n vol) (hN : NodI U n vol) {a : Nat} (ha : At V a) : ∃ k, k < n ∧ V 4 a = nI k ∧ ¬ U 4 k = 0 := by
  obtain ⟨a64, a1, a4⟩ := ha
  by_cases q : V 2 a = -1
  · obtain ⟨v, r, _, _, _, r1, r2, _, r3, _⟩ := h.rn hN a64 a1 q
    exact ⟨r, r1, r2, by rw [r3]; exact i20⟩
  · obtain ⟨p, _, _, _, _, p5⟩ := h.ch a a64 a1 q
    rcases hN.fd (V 4 p) (V 3 a) with ⟨z, _⟩ | ⟨k, k1, k2, k3, _⟩
    · rw [p5, z] at a4
      exact absurd rfl a4
    · exact ⟨k, k1, p5.trans k2, k3⟩
theorem fo_nI {U : NodV} {n vol k : Nat} (hN : NodI U n vol) (hk : k < n) : q_X2_isFolder U (nI k) = if U 4 k = 2 then 1 else 0 := by
  have h60 := hN.n60
  unfold q_X2_isFolder
  rw [hN.ex hk, ix_nI (by omega)]
  by_cases z : U 4 k = 0
  · rw [if_pos z, if_pos rfl, z, if_neg i02]
  · rw [if_neg z, if_neg i10]
theorem isF_q {U : NodV} {V : MemV} {a : Nat} (a64 : a < 64) (a0 : ¬ V 1 a = 0) : q_X1_isFolder U V (nI a) = if q_X2_isFolder U (V 4 a) = 0 then 0 else 1 := by
  unfold q_X1_isFolder
  rw [Inv.isE a64 a0, if_neg i10, ix64 a64]
theorem Rel.isFolder {wk : Option Nat} {U : NodV} {V : MemV} {H : OneV} {W : WkV} {D : RowV} {n vol : Nat} (r : Rel wk U V H W D n) (hN : NodI U n vol) (hM : MemI U V n vol) {J : MJ} (h : RefL J) (I : MI) (G : RowV) (c : Int32) {a : Nat} (ha : At V a) : M_X10_isFolder [mR (some 188), mI (nI a)] (rF I D G c, J) = some (some (mI (q_X1_isFolder U V (nI a))), (rF I D G c, J)) := by
  obtain ⟨k, k1, k2, k3⟩ := hM.nk hN ha
  obtain ⟨a64, a1, a4⟩ := ha
  have a0 : ¬ V 1 a = 0 := by rw [a1]; exact i10
  have n60 := hN.n60
  have nd := (r.B.nd k k1).2.2.2.2 k3
  rw [E_X10_isFolder]
  simp only [h.kt, if_true, w_its h _ 3 (show (3 : Int32) = nI 3 from rfl) (show a < 128 by omega) (by decide), Option.bind_some, asI_I, rF_D, (r.B.en a a64 a0).2.2.1]
  rw [if_neg a4, k2]
  simp only [w_nodeHas h _ 1 (show (1 : Int32) = nI 1 from rfl) (show k < 60 by omega) (by decide), Option.bind_some, asI_I, rF_D, nd]
  rw [isF_q a64 a0, k2, fo_nI hN k1]
  by_cases z : U 4 k = 2
  · simp [z]
  · simp [z]
theorem Stq.of0 {wk : Option Nat} {U : NodV} {V V' : MemV} {H : OneV} {W : WkV} {D : RowV} {n vol t T tl : Nat} {x : Nat → Nat} (s : Stq wk U (tz V) V' H W D n vol t T tl x) : Stq wk U V V' H W D n vol t T tl x := by
  obtain ⟨a, b, c, d, e, f, g, i⟩ := s
  refine ⟨a, b, c, d, by rw [e, tz_k V 9 (by decide)], by rw [f, tz_k V 10 (by decide)], by rw [g, tz_0 V (by decide)], fun k h1 h2 h3 => ?_⟩
  have z := i k h1 (by rw [tz_k V 1 (by decide)]; exact h2) h3
  unfold Sta at z ⊢
  rw [tz_k V 1 (by decide), tz_k V 2 (by decide), tz_k V 3 (by decide), tz_k V 4 (by decide), tz_k V 6 (by decide), tz_k V 8 (by decide)] at z
  exact z
/-- what a step comes to -/
def Sto (V' : MemV) (q how c' : Int32) (a tl : Nat) : Prop := (how = 0 ∧ ∃ a', c' = nI a' ∧ q = nI a' ∧ At V' a' ∧ Trl V' a a' tl) ∨ (how = -2 ∧ q = -2 ∧ tl = 1 ∧ V' 0 16 = nI 1 ∧ ∃ e, e < 64 ∧ V' 11 0 = nI e ∧ V' 1 e = 1 ∧ V' 4 e = -1) ∨ (how = -3 ∧ q = -3 ∧ tl = 0 ∧ V' 0 16 = nI 0)
theorem Rel.steps0 {wk : Option Nat} {U : NodV} {V : MemV} {H : OneV} {W : WkV} {D : RowV} {n vol t T : Nat} {x : Nat → Nat} (r : Rel wk U (tz V) H W D n) (i : Inv U V H W n vol t T x) (C : CntI V) (hx : ∀ e, e < 64 → ¬ x e = 0 → ¬ V 4 e = -1) {J : MJ} (h : RefL J) (I : MI) (hb : HB (I 188 20) x) (hw : I 188 21 = oI wk) (G : RowV) (ht : TlI wk (tz V) W 0) {a : Nat} (ha : At V a) {s y : Int32} (hs : NmS s y) (tT : t + 2 ≤ T) : ∃ D' G' c' how t' tl, M_X10_steps0 [mR (some 188), mI y] (rF I D G (nI a), J) = some (some (mI how), (rF I D' G' c', J)) ∧ Stq wk U V (gV_X1_stepFrom U V (nI a) s) H W D' n vol t' T tl x ∧ t ≤ t' ∧ t' ≤ t + 2 ∧ Sto (gV_X1_stepFrom U V (nI a) s) (q_X1_stepFrom U V (nI a) s) how c' a tl := by

  have i0 := i.tzi
  have C0 := C.tzi
  have a0 := ha.tzi
  have hx0 : ∀ e, e < 64 → ¬ x e = 0 → ¬ tz V 4 e = -1 := fun e a b => by rw [tz_k V 4 (by decide)]; exact hx e a b
  have e0 : uv V 0 16 0 = tz V := rfl
  rw [E_X10_steps0]
  unfold gV_X1_stepFrom q_X1_stepFrom
  rw [e0]
  rcases hs with hn | ⟨s1, y1⟩ | ⟨s1, y1⟩
  · obtain ⟨g1, g2⟩ := hn.gt
    rw [if_neg (i32_gt_ne g2).1, if_neg (i32_gt_ne g2).2.1, if_neg (i32_gt_ne g1).1, if_neg (i32_gt_ne g1).2.1, if_neg (i32_gt_ne g1).1, if_neg (i32_gt_ne g1).2.1]
    simp only [h.fi, rF_c, Option.bind_some, h.kt, if_true, r.isFolder i0.N i0.M h I G (nI a) a0, asI_I]
    by_cases fo : q_X1_isFolder U (tz V) (nI a) = 0
    · rw [if_pos fo, if_pos fo, if_pos fo]
      exact ⟨D, G, nI a, -3, t, 0, rfl, (Stq.refl r i0 C0 ht).of0, by omega, by omega, Or.inr (Or.inr ⟨rfl, rfl, rfl, tz_16 V⟩)⟩
    · rw [if_neg fo, if_neg fo, if_neg fo]
      have pf : ¬ q_X2_isFolder U (tz V 4 a) = 0 := fun z => fo (by rw [isF_q a0.1 (by rw [a0.2.1]; exact i10), if_pos z])
      obtain ⟨D1, G1, e, c1, c2, e64, c3, c4, c5, c6, c7, c8, c9⟩ := r.childOf i0 C0 hx0 h I hb hw G (nI a) ht a0.1 a0.2.1 pf hn (by omega)
      have rt := reach_tl c2 e64 (tz_16 V)
      have e0' : ¬ gV_X1_reach U (tz V) (nI a) s 1 e = 0 := by rw [c4]; exact i10
      have en := c3.1.B.en e e64 e0'
      simp only [c1, Option.bind_some, asI_I, w_its h _ 3 (show (3 : Int32) = nI 3 from rfl) (show e < 128 by omega) (by decide), rF_D, en.2.2.1, h.kt, if_true]
      rw [c2, Inv.isE e64 e0', if_neg i10, if_neg i10, ix64 e64]
      generalize gV_X1_reach U (tz V) (nI a) s = V1 at c3 c4 c5 c6 c7 c8 c9 rt e0' en
      by_cases ab : V1 4 e = -1
      · rw [if_pos ab, if_pos ab, if_pos ab]
        exact ⟨D1, G1, nI a, -2, t + 1, 1, rfl, c3.of0, by omega, by omega, Or.inr (Or.inl ⟨rfl, rfl, rfl, rt.1, e, e64, rt.2, c4, ab⟩)⟩
      · rw [if_neg ab, if_neg ab, if_neg ab]
        simp only [h.wi, rF_sc, Option.bind_some, h.kt, if_true, w_its h _ 7 (show (7 : Int32) = nI 7 from rfl) (show e < 128 by omega) (by decide), asI_I, rF_D, en.2.2.2.2.2.2.1]
        have cv : q_X1_coveringVolume V1 (nI e) = oI (f_X1_coveringVolume V1 (nI e)) := rfl
        cases q : f_X1_coveringVolume V1 (nI e) with
        | none =>
          rw [q] at cv
          rw [cv, if_pos (show oI none = -1 from rfl), if_pos (show oI none < 0 by decide), if_pos (show oI none < 0 by decide)]
          refine ⟨D1, G1, nI e, 0, t + 1, 1, rfl, c3.of0, by omega, by omega, Or.inl ⟨rfl, e, rfl, rfl, ⟨e64, c4, ab⟩, rt.1, by omega, fun z => by omega, fun _ => rt.2, fun j hj => ?_⟩⟩
          have : j = 0 := by omega
          subst this
          exact ⟨e, rt.2, e64, c4, ab⟩
        | some v =>
          obtain ⟨_, v3, v4, _⟩ := fst_some q
          have v3 : v < 3 := by omega
          have v4 : V1 10 v = nI e := by
            rw [if_neg (nI_m1 (by omega))] at v4
            by_cases z : V1 10 v = nI e
            · exact z
            · rw [if_neg z] at v4; cases v4
          have ov : oI (some v) = nI v := rfl
          rw [q, ov] at cv
          have mo := (c3.2.1.M.ok v3 e64 v4).2.1
          rcases c3.2.1.M.rt v v3 with ⟨z, _⟩ | ⟨vv, ro, ro64, ro1, ro2, ro3, ro4⟩
          · exact absurd z mo
          · have n60 := i.N.n60
            have roA : At V1 ro := by
              obtain ⟨v', rr, _, _, _, r1, r2, _⟩ := c3.2.1.M.rn c3.2.1.N ro64 ro2 ro3
              exact ⟨ro64, ro2, by rw [r2]; exact nI_m1 (by omega)⟩
            have ro0 : ¬ V1 1 ro = 0 := by rw [ro2]; exact i10
            rw [cv, if_neg (nI_m1 (by omega)), if_neg (nI_pos (show v < 2 ^ 31 by omega)), if_neg (nI_pos (show v < 2 ^ 31 by omega)), if_pos (show nI v < 3 from nI_lt (b := 3) v3 (by decide)), if_pos (show nI v < 3 from nI_lt (b := 3) v3 (by decide)), ix_nI (by omega), ro1]
            obtain ⟨D2, d1, d2⟩ := c3.come (by decide) h I hw G1 (nI ro) (by omega) ro64 ro0
            have tl := cT_tl V1 ro64 rt.1 (by decide)
            refine ⟨D2, G1, nI ro, 0, t + 2, 2, ?_, d2.of0, by omega, by omega, Or.inl ⟨rfl, ro, rfl, ?_, roA.come _, tl.1, by omega, fun z => by omega, fun _ => by rw [tl.2, if_pos rfl], fun j hj => ?_⟩⟩
            · have e5 : (5 : Int32) + nI v = nI (5 + v) := nI_add 5 v
              have o5 : D1 (5 + v) = nI ro := (c3.1.B.rt v v3).trans ro1
              simp only [h.f18, Option.bind_some, h.ldD _ e5 (show 5 + v < 1853 by omega), rF_D, o5, h.wi, rF_sc, h.fi, rF_c, h.kt, if_true, d1, asV_n]
            · rw [cT_k _ _ _ (by decide) (by decide) (by decide)]; exact ro1
            · rcases (show j = 0 ∨ j = 1 by omega) with z | z
              · subst z
                exact ⟨e, by rw [tl.2, if_neg (by decide)]; exact rt.2, (show At V1 e from ⟨e64, c4, ab⟩).come _⟩
              · subst z
                exact ⟨ro, by rw [tl.2, if_pos rfl], roA.come _⟩
  · subst s1 y1
    rw [if_pos rfl, if_pos rfl, if_pos rfl]
    exact ⟨D, G, nI a, 0, t, 0, rfl, (Stq.refl r i0 C0 ht).of0, by omega, by omega, Or.inl ⟨rfl, a, rfl, rfl, a0, tz_16 V, by omega, fun _ => rfl, fun z => by omega, fun j hj => by omega⟩⟩
  · subst s1 y1
    have m2 : ¬ (-2 : Int32) = -1 := by decide
    rw [if_neg m2, if_neg m2, if_neg m2, if_pos rfl, if_pos rfl, if_pos rfl]
    obtain ⟨D', a', t', tl, g1, g2, g3, g4, g5, g6, g7⟩ := r.goesUp i0 C0 h I hw G ht (tz_16 V) a0 (by omega)
    refine ⟨D', G, nI a', 0, t', tl, ?_, g3.of0, g4, g5, Or.inl ⟨rfl, a', rfl, g2, g6, g7⟩⟩
    simp only [h.kt, if_true, g1, Option.bind_some, asV_n]
end

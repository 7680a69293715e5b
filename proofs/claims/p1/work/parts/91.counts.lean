/-! The reference counts who holds what. -/
def inc (G : RowV) (i : Nat) : RowV := sD G i (G i + 1)
theorem inc_e (G : RowV) (i e : Nat) : inc G i e = G e + nI (if i = e then 1 else 0) := by
  unfold inc sD
  by_cases q : e = i
  · rw [if_pos q, if_pos q.symm, q]
    rfl
  · rw [if_neg q, if_neg (Ne.symm q), nI_0, Int32.add_zero]
theorem itr_add {f : Nat → RowV → RowV} {a : Nat → Nat → Nat} {N : Nat} : ∀ (n k : Nat) (G : RowV), (∀ i G e, k ≤ i → i < k + n → e < N → f i G e = G e + nI (a i e)) → ∀ e, e < N → itr f k n G e = G e + nI (sm (fun i => a i e) k n)
  | 0, k, G, _, e, _ => by
    show G e = G e + nI 0
    rw [nI_0, Int32.add_zero]
  | n + 1, k, G, h, e, he => by
    show itr f (k + 1) n (f k G) e = G e + nI (a k e + sm (fun i => a i e) (k + 1) n)
    rw [itr_add n (k + 1) (f k G) (fun i G e h1 h2 h3 => h i G e (by omega) (by omega) h3) e he, h k G e (Nat.le_refl _) (by omega) he, Int32.add_assoc, nI_add]
theorem sm_cnt (P : Nat → Bool) : ∀ n k, sm (fun i => if P i = true then 1 else 0) k n = cnt P k n
  | 0, k => rfl
  | n + 1, k => by
    unfold sm cnt
    rw [sm_cnt P n (k + 1)]
theorem sm_add (a b : Nat → Nat) : ∀ n k, sm (fun i => a i + b i) k n = sm a k n + sm b k n
  | 0, k => rfl
  | n + 1, k => by
    unfold sm
    rw [sm_add a b n (k + 1)]
    omega
theorem sm_at {a : Nat → Nat} {e : Nat} : ∀ {n k : Nat}, k ≤ e → e < k + n → (∀ i, k ≤ i → i < k + n → i ≠ e → a i = 0) → sm a k n = a e
  | 0, k, h1, h2, _ => by omega
  | n + 1, k, h1, h2, h => by
    unfold sm
    by_cases q : k = e
    · subst q
      rw [sm_zero (fun i p q => h i (by omega) (by omega) (by omega))]
      rfl
    · rw [h k (Nat.le_refl _) (by omega) q, sm_at (n := n) (k := k + 1) (by omega) (by omega) (fun i p q r => h i (by omega) (by omega) r)]
      omega
def CHd (D : RowV) : Prop := ∀ k, k < 6 → D (11 + k) = -1 ∨ ∃ e, e < 128 ∧ D (11 + k) = nI e
def CHw (D : RowV) : Prop := ∀ w, w < 4 → ¬ D (17 + 96 * w + 0) = 0 → ¬ D (17 + 96 * w + 1) = 0 → ∃ m, m ≤ 25 ∧ D (17 + 96 * w + 5) = nI m ∧ ∀ k, k < m → ∃ e, e < 128 ∧ D (17 + 96 * w + (18 + 3 * k)) = nI e
def CEd (D : RowV) : Prop := ∀ k, k < 128 → ¬ D (701 + 9 * k + 0) = 0 → D (701 + 9 * k + 1) = -1 ∨ ∃ p, p < 128 ∧ D (701 + 9 * k + 1) = nI p
def wF (D : RowV) (w e : Nat) : Nat := if D (17 + 96 * w + 0) = 0 ∨ D (17 + 96 * w + 1) = 0 then 0 else cnt (fun k => decide (D (17 + 96 * w + (18 + 3 * k)) = nI e)) 0 (ix (D (17 + 96 * w + 5)))
def hF (D : RowV) (e : Nat) : Nat := cnt (fun k => decide (D (11 + k) = nI e)) 0 6 + sm (fun w => wF D w e) 0 4
def eF (D : RowV) (e : Nat) : Nat := cnt (fun k => decide (¬ D (701 + 9 * k + 0) = 0 ∧ D (701 + 9 * k + 1) = nI e)) 0 128 + if ¬ D (701 + 9 * e + 0) = 0 ∧ ¬ D (701 + 9 * e + 7) = -1 then 1 else 0
def fHd (D : RowV) (k : Nat) (G : RowV) : RowV := if D (11 + k) = -1 then G else inc G (ix (D (11 + k)))
def fWy (D : RowV) (w k : Nat) (G : RowV) : RowV := inc G (ix (D (17 + 96 * w + (18 + 3 * k))))
def fWk (D : RowV) (w : Nat) (G : RowV) : RowV := if D (17 + 96 * w + 0) = 0 ∨ D (17 + 96 * w + 1) = 0 then G else itr (fWy D w) 0 (ix (D (17 + 96 * w + 5))) G
def fEn (D : RowV) (k : Nat) (G : RowV) : RowV := if D (701 + 9 * k + 0) = 0 then G else if D (701 + 9 * k + 7) = -1 then (if D (701 + 9 * k + 1) = -1 then G else inc G (ix (D (701 + 9 * k + 1)))) else inc (if D (701 + 9 * k + 1) = -1 then G else inc G (ix (D (701 + 9 * k + 1)))) k
theorem w_countsHands {J : MJ} (h : RefL J) (I : MI) (D G : RowV) (c : Int32) (h1 : CHd D) (h2 : CHw D) : ∃ G', M_X10_countsHands [mR (some 188)] (rF I D G c, J) = some (none, (rF I D G' c, J)) ∧ ∀ e, e < 128 → G' e = G e + nI (hF D e) := by
  refine ⟨itr (fWk D) 0 4 (itr (fHd D) 0 6 G), ?_, ?_⟩
  · rw [E_X10_countsHands]
    have s1 := loop_all (fun k G => Ev T_X10_countsHands 2 [some (mR (some 188)), some (mI (nI k)), none] [] (rF I D G c, J)) (fHd D) 6 G (fun k G hk => by
      try dsimp only
      rw [E_X10_countsHands_2, if_neg (show ¬ (6 : Int32) ≤ nI k from nI_ge hk (by decide))]
      have e11 : (11 : Int32) + nI k = nI (11 + k) := nI_add 11 k
      simp only [h.f18, h.f19, Option.bind_some, h.ldD _ e11 (show 11 + k < 1853 by omega), rF_D, nI_1]
      unfold fHd
      rcases h1 k hk with q | ⟨e, e1, e2⟩
      · rw [if_pos q, if_pos q]
      · have ne : ¬ D (11 + k) = -1 := by rw [e2]; exact nI_m1 (by omega)
        rw [if_neg ne, if_neg ne, e2, h.ldG _ rfl e1, Option.bind_some, rF_G, h.stG _ _ rfl e1, Option.bind_some, rF_sG, ix_nI (by omega)]
        rfl)
    try dsimp only at s1
    rw [show (nI 0) = 0 from rfl] at s1
    rw [s1, E_X10_countsHands_2, if_pos (show (6 : Int32) ≤ nI 6 by decide)]
    have s2 := loop_all (fun k G => Ev T_X10_countsHands 47 [some (mR (some 188)), some (mI (nI k)), none] [] (rF I D G c, J)) (fWk D) 4 (itr (fHd D) 0 6 G) (fun w G hw => by
      try dsimp only
      rw [E_X10_countsHands_47, if_neg (show ¬ (4 : Int32) ≤ nI w from nI_ge hw (by decide))]
      simp only [h.kt, if_true, w_walkerHas h _ 0 (show (0 : Int32) = nI 0 from rfl) hw (by decide), w_walkerHas h _ 1 (show (1 : Int32) = nI 1 from rfl) hw (by decide), Option.bind_some, asI_I, rF_D, nI_1]
      unfold fWk
      by_cases q0 : D (17 + 96 * w + 0) = 0
      · rw [if_pos q0, if_pos (Or.inl q0)]
      · rw [if_neg q0]
        by_cases q1 : D (17 + 96 * w + 1) = 0
        · rw [if_pos q1, if_pos (Or.inr q1)]
        · rw [if_neg q1, if_neg (fun z => z.elim q0 q1)]
          obtain ⟨m, m25, m1, m2⟩ := h2 w hw q0 q1
          have s3 := loop_all (fun k G => Ev T_X10_countsHands 75 [some (mR (some 188)), some (mI (nI w)), some (mI (nI k))] [] (rF I D G c, J)) (fWy D w) m G (fun k G hk => by
            try dsimp only
            have e18 : (18 : Int32) + 3 * nI k = nI (18 + 3 * k) := by
              rw [show (18 : Int32) = nI 18 from rfl, show (3 : Int32) = nI 3 from rfl, nI_mul, nI_add]
            rw [E_X10_countsHands_75]
            simp only [h.kt, if_true, w_walkerHas h _ 5 (show (5 : Int32) = nI 5 from rfl) hw (by decide), w_walkerHas h _ (18 + 3 * k) e18 hw (show 18 + 3 * k < 96 by omega), Option.bind_some, asI_I, rF_D, nI_1, h.f19, m1]
            rw [if_neg (nI_ge hk (by omega))]
            obtain ⟨e, e1, e2⟩ := m2 k hk
            unfold fWy
            rw [e2, h.ldG _ rfl e1, Option.bind_some, rF_G, h.stG _ _ rfl e1, Option.bind_some, rF_sG, ix_nI (by omega)]
            rfl)
          try dsimp only at s3
          rw [show (nI 0) = 0 from rfl] at s3
          rw [s3, E_X10_countsHands_75]
          simp only [h.kt, if_true, w_walkerHas h _ 5 (show (5 : Int32) = nI 5 from rfl) hw (by decide), Option.bind_some, asI_I, rF_D, nI_1, m1]
          rw [if_pos (Int32.le_refl _), ix_nI (by omega)])
    try dsimp only at s2
    rw [show (nI 0) = 0 from rfl] at s2
    rw [s2, E_X10_countsHands_47, if_pos (show (4 : Int32) ≤ nI 4 by decide)]
  · intro e he
    have p1 := itr_add (f := fHd D) (a := fun k e => if decide (D (11 + k) = nI e) = true then 1 else 0) (N := 128) 6 0 G (fun i G e _ hi he => by
      unfold fHd
      rcases h1 i (by omega) with q | ⟨f, f1, f2⟩
      · rw [if_pos q, q, if_neg (by simp only [decide_eq_true_eq]; exact fun z => nI_m1 (show e < 2 ^ 31 by omega) z.symm), nI_0, Int32.add_zero]
      · rw [if_neg (by rw [f2]; exact nI_m1 (by omega)), inc_e, f2, ix_nI (by omega)]
        simp only [decide_eq_true_eq, nI_eq (show f < 2 ^ 31 by omega) (show e < 2 ^ 31 by omega)]) e he
    have p2 := itr_add (f := fWk D) (a := fun w e => wF D w e) (N := 128) 4 0 (itr (fHd D) 0 6 G) (fun w G e _ hw he => by
      unfold fWk wF
      by_cases q : D (17 + 96 * w + 0) = 0 ∨ D (17 + 96 * w + 1) = 0
      · rw [if_pos q, if_pos q, nI_0, Int32.add_zero]
      · rw [if_neg q, if_neg q]
        obtain ⟨m, m25, m1, m2⟩ := h2 w (by omega) (fun z => q (Or.inl z)) (fun z => q (Or.inr z))
        rw [m1, ix_nI (by omega)]
        have p3 := itr_add (f := fWy D w) (a := fun k e => if decide (D (17 + 96 * w + (18 + 3 * k)) = nI e) = true then 1 else 0) (N := 128) m 0 G (fun i G e _ hi he => by
          unfold fWy
          obtain ⟨f, f1, f2⟩ := m2 i (by omega)
          rw [inc_e, f2, ix_nI (by omega)]
          simp only [decide_eq_true_eq, nI_eq (show f < 2 ^ 31 by omega) (show e < 2 ^ 31 by omega)]) e he
        rw [p3, sm_cnt (fun k => decide (D (17 + 96 * w + (18 + 3 * k)) = nI e))]) e he
    rw [p2, p1, Int32.add_assoc, nI_add, sm_cnt (fun k => decide (D (11 + k) = nI e))]
    rfl
theorem itr_sD0 : ∀ (n k : Nat) (G : RowV) (e : Nat), itr (fun k G => sD G k 0) k n G e = if k ≤ e ∧ e < k + n then 0 else G e
  | 0, k, G, e => by
    rw [if_neg (by omega)]
    rfl
  | n + 1, k, G, e => by
    show itr (fun k G => sD G k 0) (k + 1) n (sD G k 0) e = _
    rw [itr_sD0 n (k + 1) (sD G k 0) e]
    by_cases q : e = k
    · rw [if_neg (by omega), if_pos (by omega), q, sD_s]
    · rw [sD_n _ _ q]
      by_cases q2 : k + 1 ≤ e ∧ e < k + 1 + n
      · rw [if_pos q2, if_pos (by omega)]
      · rw [if_neg q2, if_neg (by omega)]
theorem w_counts {J : MJ} (h : RefL J) (I : MI) (D G : RowV) (c : Int32) (h1 : CHd D) (h2 : CHw D) (h3 : CEd D) (hb : I 188 20 = -1 ∨ ∃ q, q < 128 ∧ I 188 20 = nI q) : ∃ G', M_X10_counts [mR (some 188)] (rF I D G c, J) = some (none, (rF I D G' c, J)) ∧ ∀ e, e < 128 → G' e = nI (eF D e + hF D e + if I 188 20 = nI e then 1 else 0) := by
  obtain ⟨G1, hG1, hG2⟩ := w_countsHands h I D (itr (fEn D) 0 128 (itr (fun k G => sD G k 0) 0 128 G)) c h1 h2
  have r20 : ∀ G, rF I D G c 188 20 = I 188 20 := fun G => rF_k I D G c (by decide)
  have base : ∀ e, e < 128 → G1 e = nI (eF D e + hF D e) := by
    intro e he
    have p2 := itr_add (f := fEn D) (a := fun k e => (if decide (¬ D (701 + 9 * k + 0) = 0 ∧ D (701 + 9 * k + 1) = nI e) = true then 1 else 0) + (if ¬ D (701 + 9 * k + 0) = 0 ∧ ¬ D (701 + 9 * k + 7) = -1 ∧ k = e then 1 else 0)) (N := 128) 128 0 (itr (fun k G => sD G k 0) 0 128 G) (fun i G e _ hi he => by
      unfold fEn
      by_cases q0 : D (701 + 9 * i + 0) = 0
      · rw [if_pos q0, if_neg (by simp only [decide_eq_true_eq]; exact fun z => z.1 q0), if_neg (fun z => z.1 q0), nI_0, Int32.add_zero]
      · rw [if_neg q0]
        have inner : (if D (701 + 9 * i + 1) = -1 then G else inc G (ix (D (701 + 9 * i + 1)))) e = G e + nI (if decide (¬ D (701 + 9 * i + 0) = 0 ∧ D (701 + 9 * i + 1) = nI e) = true then 1 else 0) := by
          rcases h3 i (by omega) q0 with q | ⟨p, p1, p2⟩
          · rw [if_pos q, q, if_neg (by simp only [decide_eq_true_eq]; exact fun z => nI_m1 (show e < 2 ^ 31 by omega) z.2.symm), nI_0, Int32.add_zero]
          · rw [if_neg (by rw [p2]; exact nI_m1 (by omega)), inc_e, p2, ix_nI (by omega)]
            simp only [decide_eq_true_eq, nI_eq (show p < 2 ^ 31 by omega) (show e < 2 ^ 31 by omega), q0, not_false_eq_true, true_and]
        by_cases q7 : D (701 + 9 * i + 7) = -1
        · rw [if_pos q7, inner, if_neg (fun z : ¬ D (701 + 9 * i + 0) = 0 ∧ ¬ D (701 + 9 * i + 7) = -1 ∧ i = e => z.2.1 q7)]
          try rfl
        · rw [if_neg q7, inc_e, inner, Int32.add_assoc, nI_add]
          simp only [q0, q7, not_false_eq_true, true_and]) e he
    rw [hG2 e he, p2, itr_sD0, if_pos (by omega), Int32.zero_add, nI_add, sm_add, sm_cnt (fun k => decide (¬ D (701 + 9 * k + 0) = 0 ∧ D (701 + 9 * k + 1) = nI e)), sm_at (a := fun k => if ¬ D (701 + 9 * k + 0) = 0 ∧ ¬ D (701 + 9 * k + 7) = -1 ∧ k = e then 1 else 0) (e := e) (Nat.zero_le _) (by omega) (fun i _ _ q => if_neg (fun z => q z.2.2))]
    congr 2
    unfold eF
    congr 1
    by_cases q : ¬ D (701 + 9 * e + 0) = 0 ∧ ¬ D (701 + 9 * e + 7) = -1
    · rw [if_pos q, if_pos ⟨q.1, q.2, rfl⟩]
    · rw [if_neg q, if_neg (fun z => q ⟨z.1, z.2.1⟩)]
  have s1 := loop_all (fun k G => Ev T_X10_counts 2 [some (mR (some 188)), some (mI (nI k))] [] (rF I D G c, J)) (fun k G => sD G k 0) 128 G (fun k G hk => by
    try dsimp only
    rw [E_X10_counts_2, if_neg (show ¬ (128 : Int32) ≤ nI k from nI_ge hk (by decide))]
    simp only [h.f19, Option.bind_some]
    rw [h.stG _ _ rfl hk, Option.bind_some, rF_sG, nI_1])
  try dsimp only at s1
  rw [show (nI 0) = 0 from rfl] at s1
  have s2 := loop_all (fun k G => Ev T_X10_counts 24 [some (mR (some 188)), some (mI (nI k))] [] (rF I D G c, J)) (fEn D) 128 (itr (fun k G => sD G k 0) 0 128 G) (fun k G hk => by
    try dsimp only
    rw [E_X10_counts_24, if_neg (show ¬ (128 : Int32) ≤ nI k from nI_ge hk (by decide))]
    simp only [h.kt, if_true, w_its h _ 0 (show (0 : Int32) = nI 0 from rfl) hk (by decide), w_its h _ 1 (show (1 : Int32) = nI 1 from rfl) hk (by decide), w_its h _ 7 (show (7 : Int32) = nI 7 from rfl) hk (by decide), Option.bind_some, asI_I, rF_D, nI_1, h.f19]
    unfold fEn
    by_cases q0 : D (701 + 9 * k + 0) = 0
    · rw [if_pos q0, if_pos q0]
    · rw [if_neg q0, if_neg q0]
      rcases h3 k hk q0 with q | ⟨p, p1, p2⟩
      · rw [if_pos q, if_pos q]
        by_cases q7 : D (701 + 9 * k + 7) = -1
        · rw [if_pos q7, if_pos q7]
        · rw [if_neg q7, if_neg q7, h.ldG _ rfl hk, Option.bind_some, rF_G, h.stG _ _ rfl hk, Option.bind_some, rF_sG]
          rfl
      · have ne : ¬ D (701 + 9 * k + 1) = -1 := by rw [p2]; exact nI_m1 (by omega)
        rw [if_neg ne, if_neg ne, p2, h.ldG _ rfl p1, Option.bind_some, rF_G, h.stG _ _ rfl p1, Option.bind_some, rF_sG]
        simp only [h.kt, if_true, w_its h _ 7 (show (7 : Int32) = nI 7 from rfl) hk (by decide), Option.bind_some, asI_I, rF_D, h.f19]
        rw [ix_nI (by omega)]
        by_cases q7 : D (701 + 9 * k + 7) = -1
        · rw [if_pos q7, if_pos q7]
          rfl
        · rw [if_neg q7, if_neg q7, h.ldG _ rfl hk, Option.bind_some, rF_G, h.stG _ _ rfl hk, Option.bind_some, rF_sG]
          rfl)
  try dsimp only at s2
  rw [show (nI 0) = 0 from rfl] at s2
  have s3 : M_X10_counts [mR (some 188)] (rF I D G c, J) = Ev T_X10_counts 24 [some (mR (some 188)), some (mI (nI 128))] [] (rF I D (itr (fEn D) 0 128 (itr (fun k G => sD G k 0) 0 128 G)) c, J) := by
    rw [E_X10_counts, s1, E_X10_counts_2, if_pos (show (128 : Int32) ≤ nI 128 by decide)]
    exact s2
  rw [s3, E_X10_counts_24, if_pos (show (128 : Int32) ≤ nI 128 by decide)]
  simp only [h.kt, if_true, hG1, Option.bind_some, asV_n, h.fi, r20, h.f19]
  rcases hb with q | ⟨q, q1, q2⟩
  · rw [if_pos q]
    refine ⟨G1, rfl, fun e he => ?_⟩
    rw [base e he, q, if_neg (fun z => nI_m1 (show e < 2 ^ 31 by omega) z.symm), Nat.add_zero]
  · have ne : ¬ I 188 20 = -1 := by rw [q2]; exact nI_m1 (by omega)
    rw [if_neg ne, h.ldG _ q2 q1, Option.bind_some, h.stG _ _ q2 q1, Option.bind_some, rF_sG, rF_G]
    refine ⟨sD G1 q (G1 q + 1), rfl, fun e he => ?_⟩
    have := inc_e G1 q e
    unfold inc at this
    rw [this, base e he, q2, nI_add]
    by_cases z : q = e
    · rw [if_pos z, if_pos (by rw [z])]
    · rw [if_neg z, if_neg (fun y => z ((nI_eq (by omega) (by omega)).mp y))]

section
/-! By hand: blanks skipped, a path read. -/
def lp_X3_skipBlanks (Q : RouV) : Nat → OneV → OneV
  | 0, E => E
  | f + 1, E => if (Q 0 1) ≤ (E 0 3) then E else if (q_X5_at Q (E 0 3)) = 32 then lp_X3_skipBlanks Q f (uv E 0 3 ((E 0 3) + 1)) else if (q_X5_at Q (E 0 3)) = 10 then lp_X3_skipBlanks Q f (uv E 0 3 ((E 0 3) + 1)) else E
def gE_X3_skipBlanks (E : OneV) (Q : RouV) : OneV := lp_X3_skipBlanks Q ((Q 0 1).toInt - (E 0 3).toInt).toNat E
theorem lr_X3_skipBlanks {J : MJ} {e n t : Nat} (hE : RdrL J e n) (hT : TapL J t) (d_EQ : e + 1 ≤ t ∨ t + 2 ≤ e) (X : MI) (Q : RouV) : ∀ (f : Nat) (E : OneV), ((Q 0 1).toInt - (E 0 3).toInt).toNat ≤ f → M_X3_skipBlanks [mR (some e), mR (some t)] (pt (pt X e E) t Q, J) = some (none, (pt (pt X e (lp_X3_skipBlanks Q f E)) t Q, J)) := by
  intro f
  induction f with
  | zero =>
    intro E h
    rw [P_X3_skipBlanks hE hT d_EQ, if_pos (by rw [i32_le]; omega)]
    rfl
  | succ f ih =>
    intro E h
    rw [P_X3_skipBlanks hE hT d_EQ]
    unfold lp_X3_skipBlanks
    by_cases a : (Q 0 1) ≤ (E 0 3)
    · rw [if_pos a, if_pos a]
    · rw [if_neg a, if_neg a]
      have key := ih (uv E 0 3 ((E 0 3) + 1)) (by
        rw [uv_s]
        have := i32_succ (Int32.not_le.mp a)
        omega)
      by_cases b : (q_X5_at Q (E 0 3)) = 32
      · rw [if_pos b, if_pos b]
        exact key
      · rw [if_neg b, if_neg b]
        by_cases c : (q_X5_at Q (E 0 3)) = 10
        · rw [if_pos c, if_pos c]
          exact key
        · rw [if_neg c, if_neg c]
theorem s_X3_skipBlanks {J : MJ} {e n t : Nat} (hE : RdrL J e n) (hT : TapL J t) (d_EQ : e + 1 ≤ t ∨ t + 2 ≤ e) (X : MI) (E : OneV) (Q : RouV) : M_X3_skipBlanks [mR (some e), mR (some t)] (pt (pt X e E) t Q, J) = some (none, (pt (pt X e (gE_X3_skipBlanks E Q)) t Q, J)) :=
  lr_X3_skipBlanks hE hT d_EQ X Q _ E (Nat.le_refl _)
def lp_X4_readFrom (L : Nat) (Q : RouV) (x3 : Int32) : Nat → Int32 → RouV → Int32 × RouV
  | 0, _, P => (if (P 0 1) ≤ 0 then 0 else 1, P)
  | f + 1, x4, P => if x3 ≤ x4 then (if (P 0 1) ≤ 0 then 0 else 1, P) else if (q_X5_at Q x4) = 47 then (if (q_X9_stepBetween Q (x4 + 1) (q_X4_endOfStep Q (x4 + 1) x3)) = 0 then (0, P) else if (q_X4_push L P (q_X9_stepBetween Q (x4 + 1) (q_X4_endOfStep Q (x4 + 1) x3))) = 0 then (0, gP_X4_push L P (q_X9_stepBetween Q (x4 + 1) (q_X4_endOfStep Q (x4 + 1) x3))) else lp_X4_readFrom L Q x3 f (q_X4_endOfStep Q (x4 + 1) x3) (gP_X4_push L P (q_X9_stepBetween Q (x4 + 1) (q_X4_endOfStep Q (x4 + 1) x3)))) else (0, P)
def o_X4_readFrom (L : Nat) (Q P : RouV) (x2 x3 : Int32) : Int32 × RouV := if (x3 - x2) = 1 then (if (q_X5_at Q x2) = 47 then 1 else 0, uv P 0 1 0) else lp_X4_readFrom L Q x3 (L + 1) x2 (uv P 0 1 0)
def q_X4_readFrom (L : Nat) (Q P : RouV) (x2 x3 : Int32) : Int32 := (o_X4_readFrom L Q P x2 x3).1
def gP_X4_readFrom (L : Nat) (Q P : RouV) (x2 x3 : Int32) : RouV := (o_X4_readFrom L Q P x2 x3).2
theorem lr_X4_readFrom {J : MJ} {t r L : Nat} (hT : TapL J t) (hP : RouL J r L) (d_QP : t + 2 ≤ r ∨ r + 2 ≤ t) (X : MI) (Q : RouV) (x3 : Int32) : ∀ (f k : Nat) (x4 : Int32) (P : RouV), k + f = L + 1 → Ev T_X4_readFrom 34 [some (mR (some r)), some (mR (some t)), none, some (mI x3), some (mI x4), some (mI (nI k)), none, none] [] (pt (pt X t Q) r P, J) = some (some (mI (lp_X4_readFrom L Q x3 f x4 P).1), (pt (pt X t Q) r (lp_X4_readFrom L Q x3 f x4 P).2, J)) := by
  intro f
  have hb := hP.b
  induction f with
  | zero =>
    intro k x4 P hk
    have hk : k = L + 1 := by omega
    subst hk
    rw [P_X4_readFrom_34 hT hP d_QP, if_pos (by rw [i32_lt, nI_toInt (by omega), nI_toInt (by omega)]; omega)]
    unfold lp_X4_readFrom
    by_cases a : (P 0 1) ≤ 0
    · simp only [if_pos a]
    · simp only [if_neg a]
  | succ f ih =>
    intro k x4 P hk
    rw [P_X4_readFrom_34 hT hP d_QP, if_neg (by rw [i32_lt, nI_toInt (by omega), nI_toInt (by omega)]; omega)]
    unfold lp_X4_readFrom
    by_cases a : x3 ≤ x4
    · simp only [if_pos a]
      by_cases a : (P 0 1) ≤ 0
      · simp only [if_pos a]
      · simp only [if_neg a]
    · simp only [if_neg a]
      by_cases b : (q_X5_at Q x4) = 47
      · simp only [if_pos b]
        by_cases c : (q_X9_stepBetween Q (x4 + 1) (q_X4_endOfStep Q (x4 + 1) x3)) = 0
        · simp only [if_pos c]
        · simp only [if_neg c]
          by_cases d : (q_X4_push L P (q_X9_stepBetween Q (x4 + 1) (q_X4_endOfStep Q (x4 + 1) x3))) = 0
          · simp only [if_pos d]
          · simp only [if_neg d]
            rw [nI_1]
            exact ih (k + 1) _ _ (by omega)
      · simp only [if_neg b]
theorem s_X4_readFrom {J : MJ} {t r L : Nat} (hT : TapL J t) (hP : RouL J r L) (d_QP : t + 2 ≤ r ∨ r + 2 ≤ t) (X : MI) (Q : RouV) (P : RouV) (x2 : Int32) (x3 : Int32) : M_X4_readFrom [mR (some r), mR (some t), mI x2, mI x3] (pt (pt X t Q) r P, J) = some (some (mI (q_X4_readFrom L Q P x2 x3)), (pt (pt X t Q) r (gP_X4_readFrom L Q P x2 x3), J)) := by
  rw [P_X4_readFrom hT hP d_QP]
  unfold q_X4_readFrom gP_X4_readFrom o_X4_readFrom
  by_cases a : (x3 - x2) = 1
  · simp only [if_pos a]
    by_cases b : (q_X5_at Q x2) = 47
    · simp only [if_pos b]
    · simp only [if_neg b]
  · simp only [if_neg a]
    exact lr_X4_readFrom hT hP d_QP X Q x3 (L + 1) 0 x2 _ (by omega)
end
section
/-! Worlds, all but their walkers; the reader. Written by gen/run5.py. -/
def q_X8_handleAt (O : OneV) (H : OneV) (x1 : Int32) : Int32 := (if x1 < 0 then (-1) else (if (6 : Int32) ≤ x1 then (-1) else H 0 (ix x1)))
theorem s_X8_handleAt {J : MJ} {o n m g z : Nat} (hO : WorL J o n m g z) (hH : HanL J g) (d_OH : o + 1 ≤ g ∨ g + 1 ≤ o) (X : MI) (O : OneV) (H : OneV) (x1 : Int32) : M_X8_handleAt [mR (some o), mI x1] (pt (pt X o O) g H, J) = some (some (mI (q_X8_handleAt O H x1)), (pt (pt X o O) g H, J)) := by
  generalize hR : some (some (mI (q_X8_handleAt O H x1)), (pt (pt X o O) g H, J)) = R
  rw [E_X8_handleAt]
  unfold q_X8_handleAt at hR
  by_cases h1 : x1 < 0
  · rewrite [if_pos h1]; simp only [if_pos h1] at hR
    exact hR
  · rewrite [if_neg h1]; simp only [if_neg h1] at hR
    by_cases h2 : (6 : Int32) ≤ x1
    · rewrite [if_pos h2]; simp only [if_pos h2] at hR
      exact hR
    · rewrite [if_neg h2]; simp only [if_neg h2] at hR
      try rewrite [fR_ok 2 hO.k]
      try rewrite [Option.bind_some]
      try rewrite [hO.r2]
      try simp only [Option.bind_some]
      try rewrite [ld_ok _ hH.s0 (inb_of rfl h1 h2)]
      try rewrite [Option.bind_some]
      try rewrite [p1_0]
      exact hR
theorem P_X8_freeHandle {J : MJ} {o n m g z : Nat} (hO : WorL J o n m g z) (hH : HanL J g) (d_OH : o + 1 ≤ g ∨ g + 1 ≤ o) (X : MI) (O : OneV) (H : OneV) : M_X8_freeHandle [mR (some o)] (pt (pt X o O) g H, J) = Ev T_X8_freeHandle 2 [some (mR (some o)), some (mI 0)] [] (pt (pt X o O) g H, J) := by
  generalize hR : Ev T_X8_freeHandle 2 [some (mR (some o)), some (mI 0)] [] (pt (pt X o O) g H, J) = R
  rw [E_X8_freeHandle]
  exact hR
theorem P_X8_freeHandle_2 {J : MJ} {o n m g z : Nat} (hO : WorL J o n m g z) (hH : HanL J g) (d_OH : o + 1 ≤ g ∨ g + 1 ≤ o) (X : MI) (O : OneV) (H : OneV) (x1 : Int32) (h_x1 : ¬ x1 < 0) : Ev T_X8_freeHandle 2 [some (mR (some o)), some (mI x1)] [] (pt (pt X o O) g H, J) = (if (6 : Int32) ≤ x1 then some (some (mI ((-1))), (pt (pt X o O) g H, J)) else (if (H 0 (ix x1)) = ((-1)) then some (some (mI x1), (pt (pt X o O) g H, J)) else Ev T_X8_freeHandle 2 [some (mR (some o)), some (mI (x1 + 1))] [] (pt (pt X o O) g H, J))) := by
  generalize hR : (if (6 : Int32) ≤ x1 then some (some (mI ((-1))), (pt (pt X o O) g H, J)) else (if (H 0 (ix x1)) = ((-1)) then some (some (mI x1), (pt (pt X o O) g H, J)) else Ev T_X8_freeHandle 2 [some (mR (some o)), some (mI (x1 + 1))] [] (pt (pt X o O) g H, J))) = R
  rw [E_X8_freeHandle_2]
  by_cases h1 : (6 : Int32) ≤ x1
  · rewrite [if_pos h1]; simp only [if_pos h1] at hR
    exact hR
  · rewrite [if_neg h1]; simp only [if_neg h1] at hR
    try rewrite [fR_ok 2 hO.k]
    try rewrite [Option.bind_some]
    try rewrite [hO.r2]
    try simp only [Option.bind_some]
    try rewrite [ld_ok _ hH.s0 (inb_of rfl h_x1 h1)]
    try rewrite [Option.bind_some]
    try rewrite [p1_0]
    by_cases h2 : (H 0 (ix x1)) = ((-1))
    · rewrite [if_pos h2]; simp only [if_pos h2] at hR
      exact hR
    · rewrite [if_neg h2]; simp only [if_neg h2] at hR
      exact hR
def f_X8_freeHandle (O : OneV) (H : OneV)  : Option Nat := fst? (fun k => (if (H 0 k) = ((-1)) then true else false)) 0 6
def ql_X8_freeHandle (O : OneV) (H : OneV)  : Int32 := oI (f_X8_freeHandle O H)
theorem l_X8_freeHandle {J : MJ} {o n m g z : Nat} (hO : WorL J o n m g z) (hH : HanL J g) (d_OH : o + 1 ≤ g ∨ g + 1 ≤ o) (X : MI) (O : OneV) (H : OneV)  : Ev T_X8_freeHandle 2 [some (mR (some o)), some (mI 0)] [] (pt (pt X o O) g H, J) = some (some (mI (ql_X8_freeHandle O H)), (pt (pt X o O) g H, J)) := by
  have step := loop_find (fun k => Ev T_X8_freeHandle 2 [some (mR (some o)), some (mI (nI k))] [] (pt (pt X o O) g H, J)) (fun k => (if (H 0 k) = ((-1)) then true else false)) (fun k => some (some (mI ((nI k))), (pt (pt X o O) g H, J))) 6 (fun k hk => by
    try dsimp only
    rw [P_X8_freeHandle_2 hO hH d_OH _ _ _ _ (nI_pos (by omega)), if_neg (show ¬ (6 : Int32) ≤ nI k from nI_ge hk (by decide))]
    try rw [ix_nI (by omega)]
    rw [nI_1]
    by_cases k1 : (H 0 k) = ((-1))
    ·
      simp [k1, nI_1]
    ·
      simp [k1, nI_1]) 6 0 (by omega)
  have hend : Ev T_X8_freeHandle 2 [some (mR (some o)), some (mI (nI 6))] [] (pt (pt X o O) g H, J) = some (some (mI ((-1))), (pt (pt X o O) g H, J)) := by
    rw [P_X8_freeHandle_2 hO hH d_OH _ _ _ _ (nI_pos (by omega)), if_pos (show (6 : Int32) ≤ nI 6 from Int32.le_refl _)]
  have h0 : (nI 0) = 0 := rfl
  try dsimp only at step
  rw [h0] at step
  rw [step]
  unfold ql_X8_freeHandle f_X8_freeHandle
  cases fst? (fun k => (if (H 0 k) = ((-1)) then true else false)) 0 6 with
  | none => exact hend
  | some j => rfl
def q_X8_freeHandle (O : OneV) (H : OneV)  : Int32 := ql_X8_freeHandle O H
theorem s_X8_freeHandle {J : MJ} {o n m g z : Nat} (hO : WorL J o n m g z) (hH : HanL J g) (d_OH : o + 1 ≤ g ∨ g + 1 ≤ o) (X : MI) (O : OneV) (H : OneV)  : M_X8_freeHandle [mR (some o)] (pt (pt X o O) g H, J) = some (some (mI (q_X8_freeHandle O H)), (pt (pt X o O) g H, J)) := by
  rw [P_X8_freeHandle hO hH d_OH]
  unfold q_X8_freeHandle
  exact l_X8_freeHandle hO hH d_OH _ _ _
theorem P_X8_handlesOpen {J : MJ} {o n m g z : Nat} (hO : WorL J o n m g z) (hH : HanL J g) (d_OH : o + 1 ≤ g ∨ g + 1 ≤ o) (X : MI) (O : OneV) (H : OneV) : M_X8_handlesOpen [mR (some o)] (pt (pt X o O) g H, J) = Ev T_X8_handlesOpen 4 [some (mR (some o)), some (mI 0), some (mI 0)] [] (pt (pt X o O) g H, J) := by
  generalize hR : Ev T_X8_handlesOpen 4 [some (mR (some o)), some (mI 0), some (mI 0)] [] (pt (pt X o O) g H, J) = R
  rw [E_X8_handlesOpen]
  exact hR
theorem P_X8_handlesOpen_4 {J : MJ} {o n m g z : Nat} (hO : WorL J o n m g z) (hH : HanL J g) (d_OH : o + 1 ≤ g ∨ g + 1 ≤ o) (X : MI) (O : OneV) (H : OneV) (x1 : Int32) (x2 : Int32) (h_x2 : ¬ x2 < 0) : Ev T_X8_handlesOpen 4 [some (mR (some o)), some (mI x1), some (mI x2)] [] (pt (pt X o O) g H, J) = (if (6 : Int32) ≤ x2 then some (some (mI x1), (pt (pt X o O) g H, J)) else (if (H 0 (ix x2)) = ((-1)) then Ev T_X8_handlesOpen 4 [some (mR (some o)), some (mI (x1 + 0)), some (mI (x2 + 1))] [] (pt (pt X o O) g H, J) else Ev T_X8_handlesOpen 4 [some (mR (some o)), some (mI (x1 + 1)), some (mI (x2 + 1))] [] (pt (pt X o O) g H, J))) := by
  generalize hR : (if (6 : Int32) ≤ x2 then some (some (mI x1), (pt (pt X o O) g H, J)) else (if (H 0 (ix x2)) = ((-1)) then Ev T_X8_handlesOpen 4 [some (mR (some o)), some (mI (x1 + 0)), some (mI (x2 + 1))] [] (pt (pt X o O) g H, J) else Ev T_X8_handlesOpen 4 [some (mR (some o)), some (mI (x1 + 1)), some (mI (x2 + 1))] [] (pt (pt X o O) g H, J))) = R
  rw [E_X8_handlesOpen_4]
  by_cases h1 : (6 : Int32) ≤ x2
  · rewrite [if_pos h1]; simp only [if_pos h1] at hR
    exact hR
  · rewrite [if_neg h1]; simp only [if_neg h1] at hR
    try rewrite [fR_ok 2 hO.k]
    try rewrite [Option.bind_some]
    try rewrite [hO.r2]
    try simp only [Option.bind_some]
    try rewrite [ld_ok _ hH.s0 (inb_of rfl h_x2 h1)]
    try rewrite [Option.bind_some]
    try rewrite [p1_0]
    by_cases h2 : (H 0 (ix x2)) = ((-1))
    · rewrite [if_pos h2]; simp only [if_pos h2] at hR
      exact hR
    · rewrite [if_neg h2]; simp only [if_neg h2] at hR
      exact hR
def c_X8_handlesOpen (O : OneV) (H : OneV)  : Nat := cnt (fun k => (if (H 0 k) = ((-1)) then false else true)) 0 6
def ql_X8_handlesOpen (O : OneV) (H : OneV)  : Int32 := nI (c_X8_handlesOpen O H)
theorem l_X8_handlesOpen {J : MJ} {o n m g z : Nat} (hO : WorL J o n m g z) (hH : HanL J g) (d_OH : o + 1 ≤ g ∨ g + 1 ≤ o) (X : MI) (O : OneV) (H : OneV)  : Ev T_X8_handlesOpen 4 [some (mR (some o)), some (mI 0), some (mI 0)] [] (pt (pt X o O) g H, J) = some (some (mI (ql_X8_handlesOpen O H)), (pt (pt X o O) g H, J)) := by
  have step := loop_cnt (fun k c => Ev T_X8_handlesOpen 4 [some (mR (some o)), some (mI (nI c)), some (mI (nI k))] [] (pt (pt X o O) g H, J)) (fun k => (if (H 0 k) = ((-1)) then false else true)) 6 (fun k c hk => by
    try dsimp only
    rw [P_X8_handlesOpen_4 hO hH d_OH _ _ _ _ _ (nI_pos (by omega)), if_neg (show ¬ (6 : Int32) ≤ nI k from nI_ge hk (by decide))]
    try rw [ix_nI (by omega)]
    rw [nI_1 k]
    by_cases k1 : (H 0 k) = ((-1))
    ·
      simp [k1, nI_1]
    ·
      simp [k1, nI_1]) 6 0 0 (by omega)
  have h0 : (nI 0) = 0 := rfl
  try dsimp only at step
  rw [h0] at step
  rw [step, P_X8_handlesOpen_4 hO hH d_OH _ _ _ _ _ (nI_pos (by omega)), if_pos (show (6 : Int32) ≤ nI 6 from Int32.le_refl _), Nat.zero_add]
  rfl
def q_X8_handlesOpen (O : OneV) (H : OneV)  : Int32 := ql_X8_handlesOpen O H
theorem s_X8_handlesOpen {J : MJ} {o n m g z : Nat} (hO : WorL J o n m g z) (hH : HanL J g) (d_OH : o + 1 ≤ g ∨ g + 1 ≤ o) (X : MI) (O : OneV) (H : OneV)  : M_X8_handlesOpen [mR (some o)] (pt (pt X o O) g H, J) = some (some (mI (q_X8_handlesOpen O H)), (pt (pt X o O) g H, J)) := by
  rw [P_X8_handlesOpen hO hH d_OH]
  unfold q_X8_handlesOpen
  exact l_X8_handlesOpen hO hH d_OH _ _ _
def q_X8_openAt (L : Nat) (O : OneV) (H : OneV) (P : RouV) (U : NodV) (V : MemV) : Int32 := (if (q_X1_walk L P U V (P 0 1)) < 0 then (-1) else (if (q_X8_freeHandle O H) < 0 then (-1) else (if (q_X8_freeHandle O H) < 6 then q_X8_freeHandle O H else (-1))))
def gH_X8_openAt (L : Nat) (O : OneV) (H : OneV) (P : RouV) (U : NodV) (V : MemV) : OneV := (if (q_X1_walk L P U V (P 0 1)) < 0 then H else (if (q_X8_freeHandle O H) < 0 then H else (if (q_X8_freeHandle O H) < 6 then uv H 0 (ix (q_X8_freeHandle O H)) (q_X1_walk L P U V (P 0 1)) else H)))
def gV_X8_openAt (L : Nat) (O : OneV) (H : OneV) (P : RouV) (U : NodV) (V : MemV) : MemV := (if (q_X1_walk L P U V (P 0 1)) < 0 then gV_X1_walk L P U V (P 0 1) else (if (q_X8_freeHandle O H) < 0 then gV_X1_walk L P U V (P 0 1) else (if (q_X8_freeHandle O H) < 6 then gV_X1_hold (gV_X1_walk L P U V (P 0 1)) (q_X1_walk L P U V (P 0 1)) else gV_X1_walk L P U V (P 0 1))))
theorem s_X8_openAt {J : MJ} {o n m g z r L : Nat} (hO : WorL J o n m g z) (hH : HanL J g) (hP : RouL J r L) (hN : NodL J n) (hM : MemL J m n) (d_OH : o + 1 ≤ g ∨ g + 1 ≤ o) (d_OP : o + 1 ≤ r ∨ r + 2 ≤ o) (d_OU : o + 1 ≤ n ∨ n + 6 ≤ o) (d_OV : o + 1 ≤ m ∨ m + 12 ≤ o) (d_HP : g + 1 ≤ r ∨ r + 2 ≤ g) (d_HU : g + 1 ≤ n ∨ n + 6 ≤ g) (d_HV : g + 1 ≤ m ∨ m + 12 ≤ g) (d_PU : r + 2 ≤ n ∨ n + 6 ≤ r) (d_PV : r + 2 ≤ m ∨ m + 12 ≤ r) (d_UV : n + 6 ≤ m ∨ m + 12 ≤ n) (X : MI) (O : OneV) (H : OneV) (P : RouV) (U : NodV) (V : MemV) : M_X8_openAt [mR (some o), mR (some r)] (pt (pt (pt (pt (pt X o O) g H) r P) n U) m V, J) = some (some (mI (q_X8_openAt L O H P U V)), (pt (pt (pt (pt (pt X o O) g (gH_X8_openAt L O H P U V)) r P) n U) m (gV_X8_openAt L O H P U V), J)) := by
  generalize hR : some (some (mI (q_X8_openAt L O H P U V)), (pt (pt (pt (pt (pt X o O) g (gH_X8_openAt L O H P U V)) r P) n U) m (gV_X8_openAt L O H P U V), J)) = R
  rw [E_X8_openAt]
  unfold q_X8_openAt gH_X8_openAt gV_X8_openAt at hR
  try rewrite [fR_ok 1 hO.k]
  try rewrite [Option.bind_some]
  try rewrite [hO.r1]
  try rewrite [fI_ok 1 hP.k]
  try rewrite [Option.bind_some]
  try rewrite [pt_out (x := r) (a := m) (by have := d_PV; omega)]
  try rewrite [pt_out (x := r) (a := n) (by have := d_PU; omega)]
  try rewrite [p2_0]
  try simp only [Option.bind_some]
  rewrite [if_pos (show kd (pt (pt (pt (pt (pt X o O) g H) r P) n U) m V, J) m = 1 from hM.k)]
  rewrite [s_X1_walk hP hN hM d_PU d_PV d_UV]
  simp only [Option.bind_some, asI_I]
  try simp only [Option.bind_some]
  rewrite [if_pos (show kd (pt (pt (pt (pt (pt X o O) g H) r P) n U) m (gV_X1_walk L P U V (P 0 1)), J) o = 8 from hO.k)]
  rw [pt_comm (pt X o O) H P d_HP, pt_comm (pt (pt X o O) r P) H U d_HU, pt_comm (pt (pt (pt X o O) r P) n U) H (gV_X1_walk L P U V (P 0 1)) d_HV, pt_comm X O P d_OP, pt_comm (pt X r P) O U d_OU, pt_comm (pt (pt X r P) n U) O (gV_X1_walk L P U V (P 0 1)) d_OV]
  rw [s_X8_freeHandle hO hH d_OH]
  rw [pt_comm (pt (pt X r P) n U) (gV_X1_walk L P U V (P 0 1)) O (Or.symm d_OV), pt_comm (pt (pt (pt X r P) n U) o O) (gV_X1_walk L P U V (P 0 1)) H (Or.symm d_HV), pt_comm (pt X r P) U O (Or.symm d_OU), pt_comm (pt (pt X r P) o O) U H (Or.symm d_HU), pt_comm X P O (Or.symm d_OP), pt_comm (pt X o O) P H (Or.symm d_HP)]
  simp only [Option.bind_some, asI_I]
  by_cases h1 : (q_X1_walk L P U V (P 0 1)) < 0
  · rewrite [if_pos h1]; simp only [if_pos h1] at hR
    exact hR
  · rewrite [if_neg h1]; simp only [if_neg h1] at hR
    by_cases h2 : (q_X8_freeHandle O H) < 0
    · rewrite [if_pos h2]; simp only [if_pos h2] at hR
      exact hR
    · rewrite [if_neg h2]; simp only [if_neg h2] at hR
      by_cases h3 : (q_X8_freeHandle O H) < 6
      · rewrite [if_pos h3]; simp only [if_pos h3] at hR
        try rewrite [fR_ok 1 hO.k]
        try rewrite [Option.bind_some]
        try rewrite [hO.r1]
        try simp only [Option.bind_some]
        rewrite [if_pos (show kd (pt (pt (pt (pt (pt X o O) g H) r P) n U) m (gV_X1_walk L P U V (P 0 1)), J) m = 1 from hM.k)]
        rewrite [s_X1_hold hM]
        simp only [Option.bind_some, asV_n]
        try rewrite [fR_ok 2 hO.k]
        try rewrite [Option.bind_some]
        try rewrite [hO.r2]
        try simp only [Option.bind_some]
        try rewrite [st_ok _ _ hH.s0 (inb_of rfl h2 (Int32.not_le.mpr h3))]
        try rewrite [Option.bind_some]
        try rewrite [up_out (x := g) (a := m) (by have := d_HV; omega)]
        try rewrite [up_out (x := g) (a := n) (by have := d_HU; omega)]
        try rewrite [up_out (x := g) (a := r) (by have := d_HP; omega)]
        try rewrite [u1_0]
        exact hR
      · rewrite [if_neg h3]; simp only [if_neg h3] at hR
        exact hR
def gH_X8_closeHandle (O : OneV) (H : OneV) (V : MemV) (x1 : Int32) : OneV := (if x1 < 0 then H else (if (6 : Int32) ≤ x1 then H else uv H 0 (ix x1) ((-1))))
def gV_X8_closeHandle (O : OneV) (H : OneV) (V : MemV) (x1 : Int32) : MemV := (if x1 < 0 then V else (if (6 : Int32) ≤ x1 then V else gV_X1_release V (H 0 (ix x1))))
theorem s_X8_closeHandle {J : MJ} {o n m g z : Nat} (hO : WorL J o n m g z) (hH : HanL J g) (hM : MemL J m n) (d_OH : o + 1 ≤ g ∨ g + 1 ≤ o) (d_OV : o + 1 ≤ m ∨ m + 12 ≤ o) (d_HV : g + 1 ≤ m ∨ m + 12 ≤ g) (X : MI) (O : OneV) (H : OneV) (V : MemV) (x1 : Int32) : M_X8_closeHandle [mR (some o), mI x1] (pt (pt (pt X o O) g H) m V, J) = some (none, (pt (pt (pt X o O) g (gH_X8_closeHandle O H V x1)) m (gV_X8_closeHandle O H V x1), J)) := by
  generalize hR : some (none, (pt (pt (pt X o O) g (gH_X8_closeHandle O H V x1)) m (gV_X8_closeHandle O H V x1), J)) = R
  rw [E_X8_closeHandle]
  unfold gH_X8_closeHandle gV_X8_closeHandle at hR
  by_cases h1 : x1 < 0
  · rewrite [if_pos h1]; simp only [if_pos h1] at hR
    exact hR
  · rewrite [if_neg h1]; simp only [if_neg h1] at hR
    by_cases h2 : (6 : Int32) ≤ x1
    · rewrite [if_pos h2]; simp only [if_pos h2] at hR
      exact hR
    · rewrite [if_neg h2]; simp only [if_neg h2] at hR
      try rewrite [fR_ok 1 hO.k]
      try rewrite [Option.bind_some]
      try rewrite [hO.r1]
      try rewrite [fR_ok 2 hO.k]
      try rewrite [Option.bind_some]
      try rewrite [hO.r2]
      try simp only [Option.bind_some]
      try rewrite [ld_ok _ hH.s0 (inb_of rfl h1 h2)]
      try rewrite [Option.bind_some]
      try rewrite [pt_out (x := g) (a := m) (by have := d_HV; omega)]
      try rewrite [p1_0]
      try simp only [Option.bind_some]
      rewrite [if_pos (show kd (pt (pt (pt X o O) g H) m V, J) m = 1 from hM.k)]
      rewrite [s_X1_release hM]
      simp only [Option.bind_some, asV_n]
      try rewrite [fR_ok 2 hO.k]
      try rewrite [Option.bind_some]
      try rewrite [hO.r2]
      try simp only [Option.bind_some]
      try rewrite [st_ok _ _ hH.s0 (inb_of rfl h1 h2)]
      try rewrite [Option.bind_some]
      try rewrite [up_out (x := g) (a := m) (by have := d_HV; omega)]
      try rewrite [u1_0]
      exact hR
def q_X8_gapIn (L : Nat) (O : OneV) (P : RouV) (U : NodV) (V : MemV) (x1 : Int32) : Int32 := (if (0 : Int32) < (q_X4_last L P) then (if (q_X1_isAbsence (gV_X1_reach U V x1 (q_X4_last L P)) (q_X1_reach U V x1 (q_X4_last L P))) = 0 then (-1) else q_X1_reach U V x1 (q_X4_last L P)) else (-1))
def gV_X8_gapIn (L : Nat) (O : OneV) (P : RouV) (U : NodV) (V : MemV) (x1 : Int32) : MemV := (if (0 : Int32) < (q_X4_last L P) then (if (q_X1_isAbsence (gV_X1_reach U V x1 (q_X4_last L P)) (q_X1_reach U V x1 (q_X4_last L P))) = 0 then gV_X1_reach U V x1 (q_X4_last L P) else gV_X1_reach U V x1 (q_X4_last L P)) else V)
theorem s_X8_gapIn {J : MJ} {o n m g z r L : Nat} (hO : WorL J o n m g z) (hP : RouL J r L) (hN : NodL J n) (hM : MemL J m n) (d_OP : o + 1 ≤ r ∨ r + 2 ≤ o) (d_OU : o + 1 ≤ n ∨ n + 6 ≤ o) (d_OV : o + 1 ≤ m ∨ m + 12 ≤ o) (d_PU : r + 2 ≤ n ∨ n + 6 ≤ r) (d_PV : r + 2 ≤ m ∨ m + 12 ≤ r) (d_UV : n + 6 ≤ m ∨ m + 12 ≤ n) (X : MI) (O : OneV) (P : RouV) (U : NodV) (V : MemV) (x1 : Int32) : M_X8_gapIn [mR (some o), mI x1, mR (some r)] (pt (pt (pt (pt X o O) r P) n U) m V, J) = some (some (mI (q_X8_gapIn L O P U V x1)), (pt (pt (pt (pt X o O) r P) n U) m (gV_X8_gapIn L O P U V x1), J)) := by
  generalize hR : some (some (mI (q_X8_gapIn L O P U V x1)), (pt (pt (pt (pt X o O) r P) n U) m (gV_X8_gapIn L O P U V x1), J)) = R
  rw [E_X8_gapIn]
  unfold q_X8_gapIn gV_X8_gapIn at hR
  try simp only [Option.bind_some]
  rewrite [if_pos (show kd (pt (pt (pt (pt X o O) r P) n U) m V, J) r = 4 from hP.k)]
  rw [pt_comm (pt X o O) P U d_PU, pt_comm (pt (pt X o O) n U) P V d_PV]
  rw [s_X4_last hP]
  rw [pt_comm (pt (pt X o O) n U) V P (Or.symm d_PV), pt_comm (pt X o O) U P (Or.symm d_PU)]
  simp only [Option.bind_some, asI_I]
  by_cases h1 : (0 : Int32) < (q_X4_last L P)
  · rewrite [if_pos h1]; simp only [if_pos h1] at hR
    try rewrite [fR_ok 1 hO.k]
    try rewrite [Option.bind_some]
    try rewrite [hO.r1]
    try simp only [Option.bind_some]
    rewrite [if_pos (show kd (pt (pt (pt (pt X o O) r P) n U) m V, J) m = 1 from hM.k)]
    rewrite [s_X1_reach hN hM d_UV]
    simp only [Option.bind_some, asI_I]
    try rewrite [fR_ok 1 hO.k]
    try rewrite [Option.bind_some]
    try rewrite [hO.r1]
    try simp only [Option.bind_some]
    rewrite [if_pos (show kd (pt (pt (pt (pt X o O) r P) n U) m (gV_X1_reach U V x1 (q_X4_last L P)), J) m = 1 from hM.k)]
    rewrite [s_X1_isAbsence hM]
    simp only [Option.bind_some, asI_I]
    by_cases h2 : (q_X1_isAbsence (gV_X1_reach U V x1 (q_X4_last L P)) (q_X1_reach U V x1 (q_X4_last L P))) = 0
    · rewrite [if_pos h2]; simp only [if_pos h2] at hR
      exact hR
    · rewrite [if_neg h2]; simp only [if_neg h2] at hR
      exact hR
  · rewrite [if_neg h1]; simp only [if_neg h1] at hR
    exact hR
def q_X8_makeAt (L : Nat) (O : OneV) (P : RouV) (U : NodV) (V : MemV) (x2 : Int32) : Int32 := (if (q_X1_isFolder U (gV_X1_walk L P U V ((P 0 1) - 1)) (q_X1_walk L P U V ((P 0 1) - 1))) = 0 then (-1) else (if (q_X8_gapIn L O P U (gV_X1_walk L P U V ((P 0 1) - 1)) (q_X1_walk L P U V ((P 0 1) - 1))) = ((-1)) then (-1) else (if x2 = 0 then q_X1_fill U (gV_X8_gapIn L O P U (gV_X1_walk L P U V ((P 0 1) - 1)) (q_X1_walk L P U V ((P 0 1) - 1))) (q_X8_gapIn L O P U (gV_X1_walk L P U V ((P 0 1) - 1)) (q_X1_walk L P U V ((P 0 1) - 1))) 1 else q_X1_fill U (gV_X8_gapIn L O P U (gV_X1_walk L P U V ((P 0 1) - 1)) (q_X1_walk L P U V ((P 0 1) - 1))) (q_X8_gapIn L O P U (gV_X1_walk L P U V ((P 0 1) - 1)) (q_X1_walk L P U V ((P 0 1) - 1))) 2)))
def gU_X8_makeAt (L : Nat) (O : OneV) (P : RouV) (U : NodV) (V : MemV) (x2 : Int32) : NodV := (if (q_X1_isFolder U (gV_X1_walk L P U V ((P 0 1) - 1)) (q_X1_walk L P U V ((P 0 1) - 1))) = 0 then U else (if (q_X8_gapIn L O P U (gV_X1_walk L P U V ((P 0 1) - 1)) (q_X1_walk L P U V ((P 0 1) - 1))) = ((-1)) then U else (if x2 = 0 then gU_X1_fill U (gV_X8_gapIn L O P U (gV_X1_walk L P U V ((P 0 1) - 1)) (q_X1_walk L P U V ((P 0 1) - 1))) (q_X8_gapIn L O P U (gV_X1_walk L P U V ((P 0 1) - 1)) (q_X1_walk L P U V ((P 0 1) - 1))) 1 else gU_X1_fill U (gV_X8_gapIn L O P U (gV_X1_walk L P U V ((P 0 1) - 1)) (q_X1_walk L P U V ((P 0 1) - 1))) (q_X8_gapIn L O P U (gV_X1_walk L P U V ((P 0 1) - 1)) (q_X1_walk L P U V ((P 0 1) - 1))) 2)))
def gV_X8_makeAt (L : Nat) (O : OneV) (P : RouV) (U : NodV) (V : MemV) (x2 : Int32) : MemV := (if (q_X1_isFolder U (gV_X1_walk L P U V ((P 0 1) - 1)) (q_X1_walk L P U V ((P 0 1) - 1))) = 0 then gV_X1_walk L P U V ((P 0 1) - 1) else (if (q_X8_gapIn L O P U (gV_X1_walk L P U V ((P 0 1) - 1)) (q_X1_walk L P U V ((P 0 1) - 1))) = ((-1)) then gV_X8_gapIn L O P U (gV_X1_walk L P U V ((P 0 1) - 1)) (q_X1_walk L P U V ((P 0 1) - 1)) else (if x2 = 0 then gV_X1_fill U (gV_X8_gapIn L O P U (gV_X1_walk L P U V ((P 0 1) - 1)) (q_X1_walk L P U V ((P 0 1) - 1))) (q_X8_gapIn L O P U (gV_X1_walk L P U V ((P 0 1) - 1)) (q_X1_walk L P U V ((P 0 1) - 1))) 1 else gV_X1_fill U (gV_X8_gapIn L O P U (gV_X1_walk L P U V ((P 0 1) - 1)) (q_X1_walk L P U V ((P 0 1) - 1))) (q_X8_gapIn L O P U (gV_X1_walk L P U V ((P 0 1) - 1)) (q_X1_walk L P U V ((P 0 1) - 1))) 2)))
theorem s_X8_makeAt {J : MJ} {o n m g z r L : Nat} (hO : WorL J o n m g z) (hP : RouL J r L) (hN : NodL J n) (hM : MemL J m n) (d_OP : o + 1 ≤ r ∨ r + 2 ≤ o) (d_OU : o + 1 ≤ n ∨ n + 6 ≤ o) (d_OV : o + 1 ≤ m ∨ m + 12 ≤ o) (d_PU : r + 2 ≤ n ∨ n + 6 ≤ r) (d_PV : r + 2 ≤ m ∨ m + 12 ≤ r) (d_UV : n + 6 ≤ m ∨ m + 12 ≤ n) (X : MI) (O : OneV) (P : RouV) (U : NodV) (V : MemV) (x2 : Int32) : M_X8_makeAt [mR (some o), mR (some r), mI x2] (pt (pt (pt (pt X o O) r P) n U) m V, J) = some (some (mI (q_X8_makeAt L O P U V x2)), (pt (pt (pt (pt X o O) r P) n (gU_X8_makeAt L O P U V x2)) m (gV_X8_makeAt L O P U V x2), J)) := by
  generalize hR : some (some (mI (q_X8_makeAt L O P U V x2)), (pt (pt (pt (pt X o O) r P) n (gU_X8_makeAt L O P U V x2)) m (gV_X8_makeAt L O P U V x2), J)) = R
  rw [E_X8_makeAt]
  unfold q_X8_makeAt gU_X8_makeAt gV_X8_makeAt at hR
  try rewrite [fR_ok 1 hO.k]
  try rewrite [Option.bind_some]
  try rewrite [hO.r1]
  try rewrite [fI_ok 1 hP.k]
  try rewrite [Option.bind_some]
  try rewrite [pt_out (x := r) (a := m) (by have := d_PV; omega)]
  try rewrite [pt_out (x := r) (a := n) (by have := d_PU; omega)]
  try rewrite [p2_0]
  try simp only [Option.bind_some]
  rewrite [if_pos (show kd (pt (pt (pt (pt X o O) r P) n U) m V, J) m = 1 from hM.k)]
  rewrite [s_X1_walk hP hN hM d_PU d_PV d_UV]
  simp only [Option.bind_some, asI_I]
  try rewrite [fR_ok 1 hO.k]
  try rewrite [Option.bind_some]
  try rewrite [hO.r1]
  try simp only [Option.bind_some]
  rewrite [if_pos (show kd (pt (pt (pt (pt X o O) r P) n U) m (gV_X1_walk L P U V ((P 0 1) - 1)), J) m = 1 from hM.k)]
  rewrite [s_X1_isFolder hN hM d_UV]
  simp only [Option.bind_some, asI_I]
  by_cases h1 : (q_X1_isFolder U (gV_X1_walk L P U V ((P 0 1) - 1)) (q_X1_walk L P U V ((P 0 1) - 1))) = 0
  · rewrite [if_pos h1]; simp only [if_pos h1] at hR
    first | rewrite [if_pos (show ((-1) : Int32) = ((-1)) by decide)] | rewrite [if_pos trivial] | simp only [if_true]
    exact hR
  · rewrite [if_neg h1]; simp only [if_neg h1] at hR
    try simp only [Option.bind_some]
    rewrite [if_pos (show kd (pt (pt (pt (pt X o O) r P) n U) m (gV_X1_walk L P U V ((P 0 1) - 1)), J) o = 8 from hO.k)]
    rewrite [s_X8_gapIn hO hP hN hM d_OP d_OU d_OV d_PU d_PV d_UV]
    simp only [Option.bind_some, asI_I]
    by_cases h2 : (q_X8_gapIn L O P U (gV_X1_walk L P U V ((P 0 1) - 1)) (q_X1_walk L P U V ((P 0 1) - 1))) = ((-1))
    · rewrite [if_pos h2]; simp only [if_pos h2] at hR
      exact hR
    · rewrite [if_neg h2]; simp only [if_neg h2] at hR
      try rewrite [fR_ok 1 hO.k]
      try rewrite [Option.bind_some]
      try rewrite [hO.r1]
      by_cases h3 : x2 = 0
      · rewrite [if_pos h3]; simp only [if_pos h3] at hR
        try simp only [Option.bind_some]
        rewrite [if_pos (show kd (pt (pt (pt (pt X o O) r P) n U) m (gV_X8_gapIn L O P U (gV_X1_walk L P U V ((P 0 1) - 1)) (q_X1_walk L P U V ((P 0 1) - 1))), J) m = 1 from hM.k)]
        rewrite [s_X1_fill hN hM d_UV]
        simp only [Option.bind_some, asI_I]
        exact hR
      · rewrite [if_neg h3]; simp only [if_neg h3] at hR
        try simp only [Option.bind_some]
        rewrite [if_pos (show kd (pt (pt (pt (pt X o O) r P) n U) m (gV_X8_gapIn L O P U (gV_X1_walk L P U V ((P 0 1) - 1)) (q_X1_walk L P U V ((P 0 1) - 1))), J) m = 1 from hM.k)]
        rewrite [s_X1_fill hN hM d_UV]
        simp only [Option.bind_some, asI_I]
        exact hR
def q_X8_removeAt (L : Nat) (O : OneV) (P : RouV) (U : NodV) (V : MemV) : Int32 := (if (q_X1_canChange (gV_X1_walk L P U V (P 0 1)) (q_X1_walk L P U V (P 0 1))) = 0 then (-1) else (if (q_X2_howManyIn U (q_X1_nodeOf (gV_X1_walk L P U V (P 0 1)) (q_X1_walk L P U V (P 0 1)))) ≤ 0 then q_X1_nodeOf (gV_X1_walk L P U V (P 0 1)) (q_X1_walk L P U V (P 0 1)) else (-1)))
def gU_X8_removeAt (L : Nat) (O : OneV) (P : RouV) (U : NodV) (V : MemV) : NodV := (if (q_X1_canChange (gV_X1_walk L P U V (P 0 1)) (q_X1_walk L P U V (P 0 1))) = 0 then U else (if (q_X2_howManyIn U (q_X1_nodeOf (gV_X1_walk L P U V (P 0 1)) (q_X1_walk L P U V (P 0 1)))) ≤ 0 then gU_X2_take U (q_X1_nodeOf (gV_X1_walk L P U V (P 0 1)) (q_X1_walk L P U V (P 0 1))) else U))
def gV_X8_removeAt (L : Nat) (O : OneV) (P : RouV) (U : NodV) (V : MemV) : MemV := (if (q_X1_canChange (gV_X1_walk L P U V (P 0 1)) (q_X1_walk L P U V (P 0 1))) = 0 then gV_X1_walk L P U V (P 0 1) else (if (q_X2_howManyIn U (q_X1_nodeOf (gV_X1_walk L P U V (P 0 1)) (q_X1_walk L P U V (P 0 1)))) ≤ 0 then gV_X1_empty (gV_X1_walk L P U V (P 0 1)) (q_X1_walk L P U V (P 0 1)) else gV_X1_walk L P U V (P 0 1)))
theorem s_X8_removeAt {J : MJ} {o n m g z r L : Nat} (hO : WorL J o n m g z) (hP : RouL J r L) (hN : NodL J n) (hM : MemL J m n) (d_OP : o + 1 ≤ r ∨ r + 2 ≤ o) (d_OU : o + 1 ≤ n ∨ n + 6 ≤ o) (d_OV : o + 1 ≤ m ∨ m + 12 ≤ o) (d_PU : r + 2 ≤ n ∨ n + 6 ≤ r) (d_PV : r + 2 ≤ m ∨ m + 12 ≤ r) (d_UV : n + 6 ≤ m ∨ m + 12 ≤ n) (X : MI) (O : OneV) (P : RouV) (U : NodV) (V : MemV) : M_X8_removeAt [mR (some o), mR (some r)] (pt (pt (pt (pt X o O) r P) n U) m V, J) = some (some (mI (q_X8_removeAt L O P U V)), (pt (pt (pt (pt X o O) r P) n (gU_X8_removeAt L O P U V)) m (gV_X8_removeAt L O P U V), J)) := by
  generalize hR : some (some (mI (q_X8_removeAt L O P U V)), (pt (pt (pt (pt X o O) r P) n (gU_X8_removeAt L O P U V)) m (gV_X8_removeAt L O P U V), J)) = R
  rw [E_X8_removeAt]
  unfold q_X8_removeAt gU_X8_removeAt gV_X8_removeAt at hR
  try rewrite [fR_ok 1 hO.k]
  try rewrite [Option.bind_some]
  try rewrite [hO.r1]
  try rewrite [fI_ok 1 hP.k]
  try rewrite [Option.bind_some]
  try rewrite [pt_out (x := r) (a := m) (by have := d_PV; omega)]
  try rewrite [pt_out (x := r) (a := n) (by have := d_PU; omega)]
  try rewrite [p2_0]
  try simp only [Option.bind_some]
  rewrite [if_pos (show kd (pt (pt (pt (pt X o O) r P) n U) m V, J) m = 1 from hM.k)]
  rewrite [s_X1_walk hP hN hM d_PU d_PV d_UV]
  simp only [Option.bind_some, asI_I]
  try rewrite [fR_ok 1 hO.k]
  try rewrite [Option.bind_some]
  try rewrite [hO.r1]
  try simp only [Option.bind_some]
  rewrite [if_pos (show kd (pt (pt (pt (pt X o O) r P) n U) m (gV_X1_walk L P U V (P 0 1)), J) m = 1 from hM.k)]
  rewrite [s_X1_nodeOf hM]
  simp only [Option.bind_some, asI_I]
  try rewrite [fR_ok 1 hO.k]
  try rewrite [Option.bind_some]
  try rewrite [hO.r1]
  try simp only [Option.bind_some]
  rewrite [if_pos (show kd (pt (pt (pt (pt X o O) r P) n U) m (gV_X1_walk L P U V (P 0 1)), J) m = 1 from hM.k)]
  rewrite [s_X1_canChange hM]
  simp only [Option.bind_some, asI_I]
  by_cases h1 : (q_X1_canChange (gV_X1_walk L P U V (P 0 1)) (q_X1_walk L P U V (P 0 1))) = 0
  · rewrite [if_pos h1]; simp only [if_pos h1] at hR
    exact hR
  · rewrite [if_neg h1]; simp only [if_neg h1] at hR
    try rewrite [fR_ok 0 hO.k]
    try rewrite [Option.bind_some]
    try rewrite [hO.r0]
    try simp only [Option.bind_some]
    rewrite [if_pos (show kd (pt (pt (pt (pt X o O) r P) n U) m (gV_X1_walk L P U V (P 0 1)), J) n = 2 from hN.k)]
    rw [pt_comm (pt (pt X o O) r P) U (gV_X1_walk L P U V (P 0 1)) d_UV]
    rw [s_X2_howManyIn hN]
    rw [pt_comm (pt (pt X o O) r P) (gV_X1_walk L P U V (P 0 1)) U (Or.symm d_UV)]
    simp only [Option.bind_some, asI_I]
    by_cases h2 : (q_X2_howManyIn U (q_X1_nodeOf (gV_X1_walk L P U V (P 0 1)) (q_X1_walk L P U V (P 0 1)))) ≤ 0
    · rewrite [if_pos h2]; simp only [if_pos h2] at hR
      try rewrite [fR_ok 0 hO.k]
      try rewrite [Option.bind_some]
      try rewrite [hO.r0]
      try simp only [Option.bind_some]
      rewrite [if_pos (show kd (pt (pt (pt (pt X o O) r P) n U) m (gV_X1_walk L P U V (P 0 1)), J) n = 2 from hN.k)]
      rw [pt_comm (pt (pt X o O) r P) U (gV_X1_walk L P U V (P 0 1)) d_UV]
      rw [s_X2_take hN]
      rw [pt_comm (pt (pt X o O) r P) (gV_X1_walk L P U V (P 0 1)) (gU_X2_take U (q_X1_nodeOf (gV_X1_walk L P U V (P 0 1)) (q_X1_walk L P U V (P 0 1)))) (Or.symm d_UV)]
      simp only [Option.bind_some, asV_n]
      try rewrite [fR_ok 1 hO.k]
      try rewrite [Option.bind_some]
      try rewrite [hO.r1]
      try simp only [Option.bind_some]
      rewrite [if_pos (show kd (pt (pt (pt (pt X o O) r P) n (gU_X2_take U (q_X1_nodeOf (gV_X1_walk L P U V (P 0 1)) (q_X1_walk L P U V (P 0 1))))) m (gV_X1_walk L P U V (P 0 1)), J) m = 1 from hM.k)]
      rewrite [s_X1_empty hM]
      simp only [Option.bind_some, asV_n]
      exact hR
    · rewrite [if_neg h2]; simp only [if_neg h2] at hR
      exact hR
def q_X8_canTake (O : OneV) (U : NodV) (V : MemV) (x1 : Int32) (x2 : Int32) : Int32 := (if (q_X1_isFolder U V x1) = 0 then 0 else (if (q_X2_volumeOf U (q_X1_nodeOf V x2)) = (q_X2_volumeOf U (q_X1_nodeOf V x1)) then (if (q_X1_isWithin V x1 x2) = 0 then 1 else 0) else 0))
theorem s_X8_canTake {J : MJ} {o n m g z : Nat} (hO : WorL J o n m g z) (hN : NodL J n) (hM : MemL J m n) (d_OU : o + 1 ≤ n ∨ n + 6 ≤ o) (d_OV : o + 1 ≤ m ∨ m + 12 ≤ o) (d_UV : n + 6 ≤ m ∨ m + 12 ≤ n) (X : MI) (O : OneV) (U : NodV) (V : MemV) (x1 : Int32) (x2 : Int32) : M_X8_canTake [mR (some o), mI x1, mI x2] (pt (pt (pt X o O) n U) m V, J) = some (some (mI (q_X8_canTake O U V x1 x2)), (pt (pt (pt X o O) n U) m V, J)) := by
  generalize hR : some (some (mI (q_X8_canTake O U V x1 x2)), (pt (pt (pt X o O) n U) m V, J)) = R
  rw [E_X8_canTake]
  unfold q_X8_canTake at hR
  try rewrite [fR_ok 0 hO.k]
  try rewrite [Option.bind_some]
  try rewrite [hO.r0]
  try rewrite [fR_ok 1 hO.k]
  try rewrite [Option.bind_some]
  try rewrite [hO.r1]
  try simp only [Option.bind_some]
  rewrite [if_pos (show kd (pt (pt (pt X o O) n U) m V, J) m = 1 from hM.k)]
  rewrite [s_X1_nodeOf hM]
  simp only [Option.bind_some, asI_I]
  try simp only [Option.bind_some]
  rewrite [if_pos (show kd (pt (pt (pt X o O) n U) m V, J) n = 2 from hN.k)]
  rw [pt_comm (pt X o O) U V d_UV]
  rw [s_X2_volumeOf hN]
  rw [pt_comm (pt X o O) V U (Or.symm d_UV)]
  simp only [Option.bind_some, asI_I]
  try rewrite [fR_ok 0 hO.k]
  try rewrite [Option.bind_some]
  try rewrite [hO.r0]
  try rewrite [fR_ok 1 hO.k]
  try rewrite [Option.bind_some]
  try rewrite [hO.r1]
  try simp only [Option.bind_some]
  rewrite [if_pos (show kd (pt (pt (pt X o O) n U) m V, J) m = 1 from hM.k)]
  rewrite [s_X1_nodeOf hM]
  simp only [Option.bind_some, asI_I]
  try simp only [Option.bind_some]
  rewrite [if_pos (show kd (pt (pt (pt X o O) n U) m V, J) n = 2 from hN.k)]
  rw [pt_comm (pt X o O) U V d_UV]
  rw [s_X2_volumeOf hN]
  rw [pt_comm (pt X o O) V U (Or.symm d_UV)]
  simp only [Option.bind_some, asI_I]
  try rewrite [fR_ok 1 hO.k]
  try rewrite [Option.bind_some]
  try rewrite [hO.r1]
  try simp only [Option.bind_some]
  rewrite [if_pos (show kd (pt (pt (pt X o O) n U) m V, J) m = 1 from hM.k)]
  rewrite [s_X1_isFolder hN hM d_UV]
  simp only [Option.bind_some, asI_I]
  by_cases h1 : (q_X1_isFolder U V x1) = 0
  · rewrite [if_pos h1]; simp only [if_pos h1] at hR
    first | exact hR | (simp only [if_pos (show (0 : Int32) = 0 ∨ (0 : Int32) = 1 by decide), if_pos (show (1 : Int32) = 0 ∨ (1 : Int32) = 1 by decide)]; exact hR) | (simp; exact hR)
  · rewrite [if_neg h1]; simp only [if_neg h1] at hR
    by_cases h2 : (q_X2_volumeOf U (q_X1_nodeOf V x2)) = (q_X2_volumeOf U (q_X1_nodeOf V x1))
    · rewrite [if_pos h2]; simp only [if_pos h2] at hR
      try rewrite [fR_ok 1 hO.k]
      try rewrite [Option.bind_some]
      try rewrite [hO.r1]
      try simp only [Option.bind_some]
      rewrite [if_pos (show kd (pt (pt (pt X o O) n U) m V, J) m = 1 from hM.k)]
      rewrite [s_X1_isWithin hM]
      simp only [Option.bind_some, asI_I]
      by_cases h3 : (q_X1_isWithin V x1 x2) = 0
      · rewrite [if_pos h3]; simp only [if_pos h3] at hR
        first | exact hR | (simp only [if_pos (show (0 : Int32) = 0 ∨ (0 : Int32) = 1 by decide), if_pos (show (1 : Int32) = 0 ∨ (1 : Int32) = 1 by decide)]; exact hR) | (simp; exact hR)
      · rewrite [if_neg h3]; simp only [if_neg h3] at hR
        first | exact hR | (simp only [if_pos (show (0 : Int32) = 0 ∨ (0 : Int32) = 1 by decide), if_pos (show (1 : Int32) = 0 ∨ (1 : Int32) = 1 by decide)]; exact hR) | (simp; exact hR)
    · rewrite [if_neg h2]; simp only [if_neg h2] at hR
      first | exact hR | (simp only [if_pos (show (0 : Int32) = 0 ∨ (0 : Int32) = 1 by decide), if_pos (show (1 : Int32) = 0 ∨ (1 : Int32) = 1 by decide)]; exact hR) | (simp; exact hR)
theorem b_X8_canTake_0 {O : OneV} {U : NodV} {V : MemV} {x1 : Int32} {x2 : Int32} (h : ¬ q_X8_canTake O U V x1 x2 = 0) : inb x1 64 := by
  unfold q_X8_canTake at h
  by_cases k1 : (q_X1_isFolder U V x1) = 0
  · simp only [if_pos k1] at h
    first | exact absurd rfl h | exact absurd trivial h
  · simp only [if_neg k1] at h
    by_cases k2 : (q_X2_volumeOf U (q_X1_nodeOf V x2)) = (q_X2_volumeOf U (q_X1_nodeOf V x1))
    · simp only [if_pos k2] at h
      by_cases k3 : (q_X1_isWithin V x1 x2) = 0
      · simp only [if_pos k3] at h
        exact (b_X1_isFolder_0 k1)
      · simp only [if_neg k3] at h
        first | exact absurd rfl h | exact absurd trivial h
    · simp only [if_neg k2] at h
      first | exact absurd rfl h | exact absurd trivial h
def q_X8_renameTo (L2 : Nat) (L : Nat) (O : OneV) (P2 : RouV) (P : RouV) (U : NodV) (V : MemV) : Int32 := (if (q_X1_canChange (gV_X1_walk L P U V (P 0 1)) (q_X1_walk L P U V (P 0 1))) = 0 then (-1) else (if (q_X8_canTake O U (gV_X1_walk L2 P2 U (gV_X1_hold (gV_X1_walk L P U V (P 0 1)) (q_X1_walk L P U V (P 0 1))) ((P2 0 1) - 1)) (q_X1_walk L2 P2 U (gV_X1_hold (gV_X1_walk L P U V (P 0 1)) (q_X1_walk L P U V (P 0 1))) ((P2 0 1) - 1)) (q_X1_walk L P U V (P 0 1))) = 0 then (-1) else (if (q_X8_gapIn L2 O P2 U (gV_X1_walk L2 P2 U (gV_X1_hold (gV_X1_walk L P U V (P 0 1)) (q_X1_walk L P U V (P 0 1))) ((P2 0 1) - 1)) (q_X1_walk L2 P2 U (gV_X1_hold (gV_X1_walk L P U V (P 0 1)) (q_X1_walk L P U V (P 0 1))) ((P2 0 1) - 1))) = ((-1)) then (-1) else q_X1_walk L P U V (P 0 1))))
def gU_X8_renameTo (L2 : Nat) (L : Nat) (O : OneV) (P2 : RouV) (P : RouV) (U : NodV) (V : MemV) : NodV := (if (q_X1_canChange (gV_X1_walk L P U V (P 0 1)) (q_X1_walk L P U V (P 0 1))) = 0 then U else (if (q_X8_canTake O U (gV_X1_walk L2 P2 U (gV_X1_hold (gV_X1_walk L P U V (P 0 1)) (q_X1_walk L P U V (P 0 1))) ((P2 0 1) - 1)) (q_X1_walk L2 P2 U (gV_X1_hold (gV_X1_walk L P U V (P 0 1)) (q_X1_walk L P U V (P 0 1))) ((P2 0 1) - 1)) (q_X1_walk L P U V (P 0 1))) = 0 then U else (if (q_X8_gapIn L2 O P2 U (gV_X1_walk L2 P2 U (gV_X1_hold (gV_X1_walk L P U V (P 0 1)) (q_X1_walk L P U V (P 0 1))) ((P2 0 1) - 1)) (q_X1_walk L2 P2 U (gV_X1_hold (gV_X1_walk L P U V (P 0 1)) (q_X1_walk L P U V (P 0 1))) ((P2 0 1) - 1))) = ((-1)) then U else gU_X2_move U (q_X1_nodeOf (gV_X1_drop (gV_X1_release (gV_X8_gapIn L2 O P2 U (gV_X1_walk L2 P2 U (gV_X1_hold (gV_X1_walk L P U V (P 0 1)) (q_X1_walk L P U V (P 0 1))) ((P2 0 1) - 1)) (q_X1_walk L2 P2 U (gV_X1_hold (gV_X1_walk L P U V (P 0 1)) (q_X1_walk L P U V (P 0 1))) ((P2 0 1) - 1))) (q_X1_walk L P U V (P 0 1))) (q_X8_gapIn L2 O P2 U (gV_X1_walk L2 P2 U (gV_X1_hold (gV_X1_walk L P U V (P 0 1)) (q_X1_walk L P U V (P 0 1))) ((P2 0 1) - 1)) (q_X1_walk L2 P2 U (gV_X1_hold (gV_X1_walk L P U V (P 0 1)) (q_X1_walk L P U V (P 0 1))) ((P2 0 1) - 1)))) (q_X1_walk L P U V (P 0 1))) (q_X1_nodeOf (gV_X1_drop (gV_X1_release (gV_X8_gapIn L2 O P2 U (gV_X1_walk L2 P2 U (gV_X1_hold (gV_X1_walk L P U V (P 0 1)) (q_X1_walk L P U V (P 0 1))) ((P2 0 1) - 1)) (q_X1_walk L2 P2 U (gV_X1_hold (gV_X1_walk L P U V (P 0 1)) (q_X1_walk L P U V (P 0 1))) ((P2 0 1) - 1))) (q_X1_walk L P U V (P 0 1))) (q_X8_gapIn L2 O P2 U (gV_X1_walk L2 P2 U (gV_X1_hold (gV_X1_walk L P U V (P 0 1)) (q_X1_walk L P U V (P 0 1))) ((P2 0 1) - 1)) (q_X1_walk L2 P2 U (gV_X1_hold (gV_X1_walk L P U V (P 0 1)) (q_X1_walk L P U V (P 0 1))) ((P2 0 1) - 1)))) (q_X1_walk L2 P2 U (gV_X1_hold (gV_X1_walk L P U V (P 0 1)) (q_X1_walk L P U V (P 0 1))) ((P2 0 1) - 1))) (q_X4_last L2 P2))))
def gV_X8_renameTo (L2 : Nat) (L : Nat) (O : OneV) (P2 : RouV) (P : RouV) (U : NodV) (V : MemV) : MemV := (if (q_X1_canChange (gV_X1_walk L P U V (P 0 1)) (q_X1_walk L P U V (P 0 1))) = 0 then gV_X1_walk L P U V (P 0 1) else (if (q_X8_canTake O U (gV_X1_walk L2 P2 U (gV_X1_hold (gV_X1_walk L P U V (P 0 1)) (q_X1_walk L P U V (P 0 1))) ((P2 0 1) - 1)) (q_X1_walk L2 P2 U (gV_X1_hold (gV_X1_walk L P U V (P 0 1)) (q_X1_walk L P U V (P 0 1))) ((P2 0 1) - 1)) (q_X1_walk L P U V (P 0 1))) = 0 then gV_X1_release (gV_X1_walk L2 P2 U (gV_X1_hold (gV_X1_walk L P U V (P 0 1)) (q_X1_walk L P U V (P 0 1))) ((P2 0 1) - 1)) (q_X1_walk L P U V (P 0 1)) else (if (q_X8_gapIn L2 O P2 U (gV_X1_walk L2 P2 U (gV_X1_hold (gV_X1_walk L P U V (P 0 1)) (q_X1_walk L P U V (P 0 1))) ((P2 0 1) - 1)) (q_X1_walk L2 P2 U (gV_X1_hold (gV_X1_walk L P U V (P 0 1)) (q_X1_walk L P U V (P 0 1))) ((P2 0 1) - 1))) = ((-1)) then gV_X1_release (gV_X8_gapIn L2 O P2 U (gV_X1_walk L2 P2 U (gV_X1_hold (gV_X1_walk L P U V (P 0 1)) (q_X1_walk L P U V (P 0 1))) ((P2 0 1) - 1)) (q_X1_walk L2 P2 U (gV_X1_hold (gV_X1_walk L P U V (P 0 1)) (q_X1_walk L P U V (P 0 1))) ((P2 0 1) - 1))) (q_X1_walk L P U V (P 0 1)) else gV_X1_move (gV_X1_drop (gV_X1_release (gV_X8_gapIn L2 O P2 U (gV_X1_walk L2 P2 U (gV_X1_hold (gV_X1_walk L P U V (P 0 1)) (q_X1_walk L P U V (P 0 1))) ((P2 0 1) - 1)) (q_X1_walk L2 P2 U (gV_X1_hold (gV_X1_walk L P U V (P 0 1)) (q_X1_walk L P U V (P 0 1))) ((P2 0 1) - 1))) (q_X1_walk L P U V (P 0 1))) (q_X8_gapIn L2 O P2 U (gV_X1_walk L2 P2 U (gV_X1_hold (gV_X1_walk L P U V (P 0 1)) (q_X1_walk L P U V (P 0 1))) ((P2 0 1) - 1)) (q_X1_walk L2 P2 U (gV_X1_hold (gV_X1_walk L P U V (P 0 1)) (q_X1_walk L P U V (P 0 1))) ((P2 0 1) - 1)))) (q_X1_walk L P U V (P 0 1)) (q_X1_walk L2 P2 U (gV_X1_hold (gV_X1_walk L P U V (P 0 1)) (q_X1_walk L P U V (P 0 1))) ((P2 0 1) - 1)) (q_X4_last L2 P2))))
theorem s_X8_renameTo {J : MJ} {o n m g z r2 L2 r L : Nat} (hO : WorL J o n m g z) (hP2 : RouL J r2 L2) (hP : RouL J r L) (hN : NodL J n) (hM : MemL J m n) (d_OP2 : o + 1 ≤ r2 ∨ r2 + 2 ≤ o) (d_OP : o + 1 ≤ r ∨ r + 2 ≤ o) (d_OU : o + 1 ≤ n ∨ n + 6 ≤ o) (d_OV : o + 1 ≤ m ∨ m + 12 ≤ o) (d_P2P : r2 + 2 ≤ r ∨ r + 2 ≤ r2) (d_P2U : r2 + 2 ≤ n ∨ n + 6 ≤ r2) (d_P2V : r2 + 2 ≤ m ∨ m + 12 ≤ r2) (d_PU : r + 2 ≤ n ∨ n + 6 ≤ r) (d_PV : r + 2 ≤ m ∨ m + 12 ≤ r) (d_UV : n + 6 ≤ m ∨ m + 12 ≤ n) (X : MI) (O : OneV) (P2 : RouV) (P : RouV) (U : NodV) (V : MemV) : M_X8_renameTo [mR (some o), mR (some r), mR (some r2)] (pt (pt (pt (pt (pt X o O) r2 P2) r P) n U) m V, J) = some (some (mI (q_X8_renameTo L2 L O P2 P U V)), (pt (pt (pt (pt (pt X o O) r2 P2) r P) n (gU_X8_renameTo L2 L O P2 P U V)) m (gV_X8_renameTo L2 L O P2 P U V), J)) := by
  generalize hR : some (some (mI (q_X8_renameTo L2 L O P2 P U V)), (pt (pt (pt (pt (pt X o O) r2 P2) r P) n (gU_X8_renameTo L2 L O P2 P U V)) m (gV_X8_renameTo L2 L O P2 P U V), J)) = R
  rw [E_X8_renameTo]
  unfold q_X8_renameTo gU_X8_renameTo gV_X8_renameTo at hR
  try rewrite [fR_ok 1 hO.k]
  try rewrite [Option.bind_some]
  try rewrite [hO.r1]
  try rewrite [fI_ok 1 hP.k]
  try rewrite [Option.bind_some]
  try rewrite [pt_out (x := r) (a := m) (by have := d_PV; omega)]
  try rewrite [pt_out (x := r) (a := n) (by have := d_PU; omega)]
  try rewrite [p2_0]
  try simp only [Option.bind_some]
  rewrite [if_pos (show kd (pt (pt (pt (pt (pt X o O) r2 P2) r P) n U) m V, J) m = 1 from hM.k)]
  rewrite [s_X1_walk hP hN hM d_PU d_PV d_UV]
  simp only [Option.bind_some, asI_I]
  try rewrite [fR_ok 1 hO.k]
  try rewrite [Option.bind_some]
  try rewrite [hO.r1]
  try simp only [Option.bind_some]
  rewrite [if_pos (show kd (pt (pt (pt (pt (pt X o O) r2 P2) r P) n U) m (gV_X1_walk L P U V (P 0 1)), J) m = 1 from hM.k)]
  rewrite [s_X1_canChange hM]
  simp only [Option.bind_some, asI_I]
  by_cases h1 : (q_X1_canChange (gV_X1_walk L P U V (P 0 1)) (q_X1_walk L P U V (P 0 1))) = 0
  · rewrite [if_pos h1]; simp only [if_pos h1] at hR
    exact hR
  · rewrite [if_neg h1]; simp only [if_neg h1] at hR
    try rewrite [fR_ok 1 hO.k]
    try rewrite [Option.bind_some]
    try rewrite [hO.r1]
    try simp only [Option.bind_some]
    rewrite [if_pos (show kd (pt (pt (pt (pt (pt X o O) r2 P2) r P) n U) m (gV_X1_walk L P U V (P 0 1)), J) m = 1 from hM.k)]
    rewrite [s_X1_hold hM]
    simp only [Option.bind_some, asV_n]
    try rewrite [fR_ok 1 hO.k]
    try rewrite [Option.bind_some]
    try rewrite [hO.r1]
    try rewrite [fI_ok 1 hP2.k]
    try rewrite [Option.bind_some]
    try rewrite [pt_out (x := r2) (a := m) (by have := d_P2V; omega)]
    try rewrite [pt_out (x := r2) (a := n) (by have := d_P2U; omega)]
    try rewrite [pt_out (x := r2) (a := r) (by have := d_P2P; omega)]
    try rewrite [p2_0]
    try simp only [Option.bind_some]
    rewrite [if_pos (show kd (pt (pt (pt (pt (pt X o O) r2 P2) r P) n U) m (gV_X1_hold (gV_X1_walk L P U V (P 0 1)) (q_X1_walk L P U V (P 0 1))), J) m = 1 from hM.k)]
    rw [pt_comm (pt X o O) P2 P d_P2P]
    rw [s_X1_walk hP2 hN hM d_P2U d_P2V d_UV]
    rw [pt_comm (pt X o O) P P2 (Or.symm d_P2P)]
    simp only [Option.bind_some, asI_I]
    try simp only [Option.bind_some]
    rewrite [if_pos (show kd (pt (pt (pt (pt (pt X o O) r2 P2) r P) n U) m (gV_X1_walk L2 P2 U (gV_X1_hold (gV_X1_walk L P U V (P 0 1)) (q_X1_walk L P U V (P 0 1))) ((P2 0 1) - 1)), J) o = 8 from hO.k)]
    rw [pt_comm X O P2 d_OP2, pt_comm (pt X r2 P2) O P d_OP]
    rw [s_X8_canTake hO hN hM d_OU d_OV d_UV]
    rw [pt_comm (pt X r2 P2) P O (Or.symm d_OP), pt_comm X P2 O (Or.symm d_OP2)]
    simp only [Option.bind_some, asI_I]
    by_cases h2 : (q_X8_canTake O U (gV_X1_walk L2 P2 U (gV_X1_hold (gV_X1_walk L P U V (P 0 1)) (q_X1_walk L P U V (P 0 1))) ((P2 0 1) - 1)) (q_X1_walk L2 P2 U (gV_X1_hold (gV_X1_walk L P U V (P 0 1)) (q_X1_walk L P U V (P 0 1))) ((P2 0 1) - 1)) (q_X1_walk L P U V (P 0 1))) = 0
    · rewrite [if_pos h2]; simp only [if_pos h2] at hR
      try rewrite [fR_ok 1 hO.k]
      try rewrite [Option.bind_some]
      try rewrite [hO.r1]
      try simp only [Option.bind_some]
      rewrite [if_pos (show kd (pt (pt (pt (pt (pt X o O) r2 P2) r P) n U) m (gV_X1_walk L2 P2 U (gV_X1_hold (gV_X1_walk L P U V (P 0 1)) (q_X1_walk L P U V (P 0 1))) ((P2 0 1) - 1)), J) m = 1 from hM.k)]
      rewrite [s_X1_release hM]
      simp only [Option.bind_some, asV_n]
      first | rewrite [if_pos (show ((-1) : Int32) = ((-1)) by decide)] | rewrite [if_pos trivial] | simp only [if_true]
      exact hR
    · rewrite [if_neg h2]; simp only [if_neg h2] at hR
      try simp only [Option.bind_some]
      rewrite [if_pos (show kd (pt (pt (pt (pt (pt X o O) r2 P2) r P) n U) m (gV_X1_walk L2 P2 U (gV_X1_hold (gV_X1_walk L P U V (P 0 1)) (q_X1_walk L P U V (P 0 1))) ((P2 0 1) - 1)), J) o = 8 from hO.k)]
      rw [pt_comm (pt X o O) P2 P d_P2P, pt_comm X O P d_OP]
      rw [s_X8_gapIn hO hP2 hN hM d_OP2 d_OU d_OV d_P2U d_P2V d_UV]
      rw [pt_comm X P O (Or.symm d_OP), pt_comm (pt X o O) P P2 (Or.symm d_P2P)]
      simp only [Option.bind_some, asI_I]
      try rewrite [fR_ok 1 hO.k]
      try rewrite [Option.bind_some]
      try rewrite [hO.r1]
      try simp only [Option.bind_some]
      rewrite [if_pos (show kd (pt (pt (pt (pt (pt X o O) r2 P2) r P) n U) m (gV_X8_gapIn L2 O P2 U (gV_X1_walk L2 P2 U (gV_X1_hold (gV_X1_walk L P U V (P 0 1)) (q_X1_walk L P U V (P 0 1))) ((P2 0 1) - 1)) (q_X1_walk L2 P2 U (gV_X1_hold (gV_X1_walk L P U V (P 0 1)) (q_X1_walk L P U V (P 0 1))) ((P2 0 1) - 1))), J) m = 1 from hM.k)]
      rewrite [s_X1_release hM]
      simp only [Option.bind_some, asV_n]
      by_cases h3 : (q_X8_gapIn L2 O P2 U (gV_X1_walk L2 P2 U (gV_X1_hold (gV_X1_walk L P U V (P 0 1)) (q_X1_walk L P U V (P 0 1))) ((P2 0 1) - 1)) (q_X1_walk L2 P2 U (gV_X1_hold (gV_X1_walk L P U V (P 0 1)) (q_X1_walk L P U V (P 0 1))) ((P2 0 1) - 1))) = ((-1))
      · rewrite [if_pos h3]; simp only [if_pos h3] at hR
        exact hR
      · rewrite [if_neg h3]; simp only [if_neg h3] at hR
        try rewrite [fR_ok 1 hO.k]
        try rewrite [Option.bind_some]
        try rewrite [hO.r1]
        try simp only [Option.bind_some]
        rewrite [if_pos (show kd (pt (pt (pt (pt (pt X o O) r2 P2) r P) n U) m (gV_X1_release (gV_X8_gapIn L2 O P2 U (gV_X1_walk L2 P2 U (gV_X1_hold (gV_X1_walk L P U V (P 0 1)) (q_X1_walk L P U V (P 0 1))) ((P2 0 1) - 1)) (q_X1_walk L2 P2 U (gV_X1_hold (gV_X1_walk L P U V (P 0 1)) (q_X1_walk L P U V (P 0 1))) ((P2 0 1) - 1))) (q_X1_walk L P U V (P 0 1))), J) m = 1 from hM.k)]
        rewrite [s_X1_drop hM]
        simp only [Option.bind_some, asV_n]
        try rewrite [fR_ok 0 hO.k]
        try rewrite [Option.bind_some]
        try rewrite [hO.r0]
        try rewrite [fR_ok 1 hO.k]
        try rewrite [Option.bind_some]
        try rewrite [hO.r1]
        try simp only [Option.bind_some]
        rewrite [if_pos (show kd (pt (pt (pt (pt (pt X o O) r2 P2) r P) n U) m (gV_X1_drop (gV_X1_release (gV_X8_gapIn L2 O P2 U (gV_X1_walk L2 P2 U (gV_X1_hold (gV_X1_walk L P U V (P 0 1)) (q_X1_walk L P U V (P 0 1))) ((P2 0 1) - 1)) (q_X1_walk L2 P2 U (gV_X1_hold (gV_X1_walk L P U V (P 0 1)) (q_X1_walk L P U V (P 0 1))) ((P2 0 1) - 1))) (q_X1_walk L P U V (P 0 1))) (q_X8_gapIn L2 O P2 U (gV_X1_walk L2 P2 U (gV_X1_hold (gV_X1_walk L P U V (P 0 1)) (q_X1_walk L P U V (P 0 1))) ((P2 0 1) - 1)) (q_X1_walk L2 P2 U (gV_X1_hold (gV_X1_walk L P U V (P 0 1)) (q_X1_walk L P U V (P 0 1))) ((P2 0 1) - 1)))), J) m = 1 from hM.k)]
        rewrite [s_X1_nodeOf hM]
        simp only [Option.bind_some, asI_I]
        try rewrite [fR_ok 1 hO.k]
        try rewrite [Option.bind_some]
        try rewrite [hO.r1]
        try simp only [Option.bind_some]
        rewrite [if_pos (show kd (pt (pt (pt (pt (pt X o O) r2 P2) r P) n U) m (gV_X1_drop (gV_X1_release (gV_X8_gapIn L2 O P2 U (gV_X1_walk L2 P2 U (gV_X1_hold (gV_X1_walk L P U V (P 0 1)) (q_X1_walk L P U V (P 0 1))) ((P2 0 1) - 1)) (q_X1_walk L2 P2 U (gV_X1_hold (gV_X1_walk L P U V (P 0 1)) (q_X1_walk L P U V (P 0 1))) ((P2 0 1) - 1))) (q_X1_walk L P U V (P 0 1))) (q_X8_gapIn L2 O P2 U (gV_X1_walk L2 P2 U (gV_X1_hold (gV_X1_walk L P U V (P 0 1)) (q_X1_walk L P U V (P 0 1))) ((P2 0 1) - 1)) (q_X1_walk L2 P2 U (gV_X1_hold (gV_X1_walk L P U V (P 0 1)) (q_X1_walk L P U V (P 0 1))) ((P2 0 1) - 1)))), J) m = 1 from hM.k)]
        rewrite [s_X1_nodeOf hM]
        simp only [Option.bind_some, asI_I]
        try simp only [Option.bind_some]
        rewrite [if_pos (show kd (pt (pt (pt (pt (pt X o O) r2 P2) r P) n U) m (gV_X1_drop (gV_X1_release (gV_X8_gapIn L2 O P2 U (gV_X1_walk L2 P2 U (gV_X1_hold (gV_X1_walk L P U V (P 0 1)) (q_X1_walk L P U V (P 0 1))) ((P2 0 1) - 1)) (q_X1_walk L2 P2 U (gV_X1_hold (gV_X1_walk L P U V (P 0 1)) (q_X1_walk L P U V (P 0 1))) ((P2 0 1) - 1))) (q_X1_walk L P U V (P 0 1))) (q_X8_gapIn L2 O P2 U (gV_X1_walk L2 P2 U (gV_X1_hold (gV_X1_walk L P U V (P 0 1)) (q_X1_walk L P U V (P 0 1))) ((P2 0 1) - 1)) (q_X1_walk L2 P2 U (gV_X1_hold (gV_X1_walk L P U V (P 0 1)) (q_X1_walk L P U V (P 0 1))) ((P2 0 1) - 1)))), J) r2 = 4 from hP2.k)]
        rw [pt_comm (pt X o O) P2 P d_P2P, pt_comm (pt (pt X o O) r P) P2 U d_P2U, pt_comm (pt (pt (pt X o O) r P) n U) P2 (gV_X1_drop (gV_X1_release (gV_X8_gapIn L2 O P2 U (gV_X1_walk L2 P2 U (gV_X1_hold (gV_X1_walk L P U V (P 0 1)) (q_X1_walk L P U V (P 0 1))) ((P2 0 1) - 1)) (q_X1_walk L2 P2 U (gV_X1_hold (gV_X1_walk L P U V (P 0 1)) (q_X1_walk L P U V (P 0 1))) ((P2 0 1) - 1))) (q_X1_walk L P U V (P 0 1))) (q_X8_gapIn L2 O P2 U (gV_X1_walk L2 P2 U (gV_X1_hold (gV_X1_walk L P U V (P 0 1)) (q_X1_walk L P U V (P 0 1))) ((P2 0 1) - 1)) (q_X1_walk L2 P2 U (gV_X1_hold (gV_X1_walk L P U V (P 0 1)) (q_X1_walk L P U V (P 0 1))) ((P2 0 1) - 1)))) d_P2V]
        rw [s_X4_last hP2]
        rw [pt_comm (pt (pt (pt X o O) r P) n U) (gV_X1_drop (gV_X1_release (gV_X8_gapIn L2 O P2 U (gV_X1_walk L2 P2 U (gV_X1_hold (gV_X1_walk L P U V (P 0 1)) (q_X1_walk L P U V (P 0 1))) ((P2 0 1) - 1)) (q_X1_walk L2 P2 U (gV_X1_hold (gV_X1_walk L P U V (P 0 1)) (q_X1_walk L P U V (P 0 1))) ((P2 0 1) - 1))) (q_X1_walk L P U V (P 0 1))) (q_X8_gapIn L2 O P2 U (gV_X1_walk L2 P2 U (gV_X1_hold (gV_X1_walk L P U V (P 0 1)) (q_X1_walk L P U V (P 0 1))) ((P2 0 1) - 1)) (q_X1_walk L2 P2 U (gV_X1_hold (gV_X1_walk L P U V (P 0 1)) (q_X1_walk L P U V (P 0 1))) ((P2 0 1) - 1)))) P2 (Or.symm d_P2V), pt_comm (pt (pt X o O) r P) U P2 (Or.symm d_P2U), pt_comm (pt X o O) P P2 (Or.symm d_P2P)]
        simp only [Option.bind_some, asI_I]
        try simp only [Option.bind_some]
        rewrite [if_pos (show kd (pt (pt (pt (pt (pt X o O) r2 P2) r P) n U) m (gV_X1_drop (gV_X1_release (gV_X8_gapIn L2 O P2 U (gV_X1_walk L2 P2 U (gV_X1_hold (gV_X1_walk L P U V (P 0 1)) (q_X1_walk L P U V (P 0 1))) ((P2 0 1) - 1)) (q_X1_walk L2 P2 U (gV_X1_hold (gV_X1_walk L P U V (P 0 1)) (q_X1_walk L P U V (P 0 1))) ((P2 0 1) - 1))) (q_X1_walk L P U V (P 0 1))) (q_X8_gapIn L2 O P2 U (gV_X1_walk L2 P2 U (gV_X1_hold (gV_X1_walk L P U V (P 0 1)) (q_X1_walk L P U V (P 0 1))) ((P2 0 1) - 1)) (q_X1_walk L2 P2 U (gV_X1_hold (gV_X1_walk L P U V (P 0 1)) (q_X1_walk L P U V (P 0 1))) ((P2 0 1) - 1)))), J) n = 2 from hN.k)]
        rw [pt_comm (pt (pt (pt X o O) r2 P2) r P) U (gV_X1_drop (gV_X1_release (gV_X8_gapIn L2 O P2 U (gV_X1_walk L2 P2 U (gV_X1_hold (gV_X1_walk L P U V (P 0 1)) (q_X1_walk L P U V (P 0 1))) ((P2 0 1) - 1)) (q_X1_walk L2 P2 U (gV_X1_hold (gV_X1_walk L P U V (P 0 1)) (q_X1_walk L P U V (P 0 1))) ((P2 0 1) - 1))) (q_X1_walk L P U V (P 0 1))) (q_X8_gapIn L2 O P2 U (gV_X1_walk L2 P2 U (gV_X1_hold (gV_X1_walk L P U V (P 0 1)) (q_X1_walk L P U V (P 0 1))) ((P2 0 1) - 1)) (q_X1_walk L2 P2 U (gV_X1_hold (gV_X1_walk L P U V (P 0 1)) (q_X1_walk L P U V (P 0 1))) ((P2 0 1) - 1)))) d_UV]
        rw [s_X2_move hN]
        rw [pt_comm (pt (pt (pt X o O) r2 P2) r P) (gV_X1_drop (gV_X1_release (gV_X8_gapIn L2 O P2 U (gV_X1_walk L2 P2 U (gV_X1_hold (gV_X1_walk L P U V (P 0 1)) (q_X1_walk L P U V (P 0 1))) ((P2 0 1) - 1)) (q_X1_walk L2 P2 U (gV_X1_hold (gV_X1_walk L P U V (P 0 1)) (q_X1_walk L P U V (P 0 1))) ((P2 0 1) - 1))) (q_X1_walk L P U V (P 0 1))) (q_X8_gapIn L2 O P2 U (gV_X1_walk L2 P2 U (gV_X1_hold (gV_X1_walk L P U V (P 0 1)) (q_X1_walk L P U V (P 0 1))) ((P2 0 1) - 1)) (q_X1_walk L2 P2 U (gV_X1_hold (gV_X1_walk L P U V (P 0 1)) (q_X1_walk L P U V (P 0 1))) ((P2 0 1) - 1)))) (gU_X2_move U (q_X1_nodeOf (gV_X1_drop (gV_X1_release (gV_X8_gapIn L2 O P2 U (gV_X1_walk L2 P2 U (gV_X1_hold (gV_X1_walk L P U V (P 0 1)) (q_X1_walk L P U V (P 0 1))) ((P2 0 1) - 1)) (q_X1_walk L2 P2 U (gV_X1_hold (gV_X1_walk L P U V (P 0 1)) (q_X1_walk L P U V (P 0 1))) ((P2 0 1) - 1))) (q_X1_walk L P U V (P 0 1))) (q_X8_gapIn L2 O P2 U (gV_X1_walk L2 P2 U (gV_X1_hold (gV_X1_walk L P U V (P 0 1)) (q_X1_walk L P U V (P 0 1))) ((P2 0 1) - 1)) (q_X1_walk L2 P2 U (gV_X1_hold (gV_X1_walk L P U V (P 0 1)) (q_X1_walk L P U V (P 0 1))) ((P2 0 1) - 1)))) (q_X1_walk L P U V (P 0 1))) (q_X1_nodeOf (gV_X1_drop (gV_X1_release (gV_X8_gapIn L2 O P2 U (gV_X1_walk L2 P2 U (gV_X1_hold (gV_X1_walk L P U V (P 0 1)) (q_X1_walk L P U V (P 0 1))) ((P2 0 1) - 1)) (q_X1_walk L2 P2 U (gV_X1_hold (gV_X1_walk L P U V (P 0 1)) (q_X1_walk L P U V (P 0 1))) ((P2 0 1) - 1))) (q_X1_walk L P U V (P 0 1))) (q_X8_gapIn L2 O P2 U (gV_X1_walk L2 P2 U (gV_X1_hold (gV_X1_walk L P U V (P 0 1)) (q_X1_walk L P U V (P 0 1))) ((P2 0 1) - 1)) (q_X1_walk L2 P2 U (gV_X1_hold (gV_X1_walk L P U V (P 0 1)) (q_X1_walk L P U V (P 0 1))) ((P2 0 1) - 1)))) (q_X1_walk L2 P2 U (gV_X1_hold (gV_X1_walk L P U V (P 0 1)) (q_X1_walk L P U V (P 0 1))) ((P2 0 1) - 1))) (q_X4_last L2 P2)) (Or.symm d_UV)]
        simp only [Option.bind_some, asV_n]
        try rewrite [fR_ok 1 hO.k]
        try rewrite [Option.bind_some]
        try rewrite [hO.r1]
        try simp only [Option.bind_some]
        rewrite [if_pos (show kd (pt (pt (pt (pt (pt X o O) r2 P2) r P) n (gU_X2_move U (q_X1_nodeOf (gV_X1_drop (gV_X1_release (gV_X8_gapIn L2 O P2 U (gV_X1_walk L2 P2 U (gV_X1_hold (gV_X1_walk L P U V (P 0 1)) (q_X1_walk L P U V (P 0 1))) ((P2 0 1) - 1)) (q_X1_walk L2 P2 U (gV_X1_hold (gV_X1_walk L P U V (P 0 1)) (q_X1_walk L P U V (P 0 1))) ((P2 0 1) - 1))) (q_X1_walk L P U V (P 0 1))) (q_X8_gapIn L2 O P2 U (gV_X1_walk L2 P2 U (gV_X1_hold (gV_X1_walk L P U V (P 0 1)) (q_X1_walk L P U V (P 0 1))) ((P2 0 1) - 1)) (q_X1_walk L2 P2 U (gV_X1_hold (gV_X1_walk L P U V (P 0 1)) (q_X1_walk L P U V (P 0 1))) ((P2 0 1) - 1)))) (q_X1_walk L P U V (P 0 1))) (q_X1_nodeOf (gV_X1_drop (gV_X1_release (gV_X8_gapIn L2 O P2 U (gV_X1_walk L2 P2 U (gV_X1_hold (gV_X1_walk L P U V (P 0 1)) (q_X1_walk L P U V (P 0 1))) ((P2 0 1) - 1)) (q_X1_walk L2 P2 U (gV_X1_hold (gV_X1_walk L P U V (P 0 1)) (q_X1_walk L P U V (P 0 1))) ((P2 0 1) - 1))) (q_X1_walk L P U V (P 0 1))) (q_X8_gapIn L2 O P2 U (gV_X1_walk L2 P2 U (gV_X1_hold (gV_X1_walk L P U V (P 0 1)) (q_X1_walk L P U V (P 0 1))) ((P2 0 1) - 1)) (q_X1_walk L2 P2 U (gV_X1_hold (gV_X1_walk L P U V (P 0 1)) (q_X1_walk L P U V (P 0 1))) ((P2 0 1) - 1)))) (q_X1_walk L2 P2 U (gV_X1_hold (gV_X1_walk L P U V (P 0 1)) (q_X1_walk L P U V (P 0 1))) ((P2 0 1) - 1))) (q_X4_last L2 P2))) m (gV_X1_drop (gV_X1_release (gV_X8_gapIn L2 O P2 U (gV_X1_walk L2 P2 U (gV_X1_hold (gV_X1_walk L P U V (P 0 1)) (q_X1_walk L P U V (P 0 1))) ((P2 0 1) - 1)) (q_X1_walk L2 P2 U (gV_X1_hold (gV_X1_walk L P U V (P 0 1)) (q_X1_walk L P U V (P 0 1))) ((P2 0 1) - 1))) (q_X1_walk L P U V (P 0 1))) (q_X8_gapIn L2 O P2 U (gV_X1_walk L2 P2 U (gV_X1_hold (gV_X1_walk L P U V (P 0 1)) (q_X1_walk L P U V (P 0 1))) ((P2 0 1) - 1)) (q_X1_walk L2 P2 U (gV_X1_hold (gV_X1_walk L P U V (P 0 1)) (q_X1_walk L P U V (P 0 1))) ((P2 0 1) - 1)))), J) r2 = 4 from hP2.k)]
        rw [pt_comm (pt X o O) P2 P d_P2P, pt_comm (pt (pt X o O) r P) P2 (gU_X2_move U (q_X1_nodeOf (gV_X1_drop (gV_X1_release (gV_X8_gapIn L2 O P2 U (gV_X1_walk L2 P2 U (gV_X1_hold (gV_X1_walk L P U V (P 0 1)) (q_X1_walk L P U V (P 0 1))) ((P2 0 1) - 1)) (q_X1_walk L2 P2 U (gV_X1_hold (gV_X1_walk L P U V (P 0 1)) (q_X1_walk L P U V (P 0 1))) ((P2 0 1) - 1))) (q_X1_walk L P U V (P 0 1))) (q_X8_gapIn L2 O P2 U (gV_X1_walk L2 P2 U (gV_X1_hold (gV_X1_walk L P U V (P 0 1)) (q_X1_walk L P U V (P 0 1))) ((P2 0 1) - 1)) (q_X1_walk L2 P2 U (gV_X1_hold (gV_X1_walk L P U V (P 0 1)) (q_X1_walk L P U V (P 0 1))) ((P2 0 1) - 1)))) (q_X1_walk L P U V (P 0 1))) (q_X1_nodeOf (gV_X1_drop (gV_X1_release (gV_X8_gapIn L2 O P2 U (gV_X1_walk L2 P2 U (gV_X1_hold (gV_X1_walk L P U V (P 0 1)) (q_X1_walk L P U V (P 0 1))) ((P2 0 1) - 1)) (q_X1_walk L2 P2 U (gV_X1_hold (gV_X1_walk L P U V (P 0 1)) (q_X1_walk L P U V (P 0 1))) ((P2 0 1) - 1))) (q_X1_walk L P U V (P 0 1))) (q_X8_gapIn L2 O P2 U (gV_X1_walk L2 P2 U (gV_X1_hold (gV_X1_walk L P U V (P 0 1)) (q_X1_walk L P U V (P 0 1))) ((P2 0 1) - 1)) (q_X1_walk L2 P2 U (gV_X1_hold (gV_X1_walk L P U V (P 0 1)) (q_X1_walk L P U V (P 0 1))) ((P2 0 1) - 1)))) (q_X1_walk L2 P2 U (gV_X1_hold (gV_X1_walk L P U V (P 0 1)) (q_X1_walk L P U V (P 0 1))) ((P2 0 1) - 1))) (q_X4_last L2 P2)) d_P2U, pt_comm (pt (pt (pt X o O) r P) n (gU_X2_move U (q_X1_nodeOf (gV_X1_drop (gV_X1_release (gV_X8_gapIn L2 O P2 U (gV_X1_walk L2 P2 U (gV_X1_hold (gV_X1_walk L P U V (P 0 1)) (q_X1_walk L P U V (P 0 1))) ((P2 0 1) - 1)) (q_X1_walk L2 P2 U (gV_X1_hold (gV_X1_walk L P U V (P 0 1)) (q_X1_walk L P U V (P 0 1))) ((P2 0 1) - 1))) (q_X1_walk L P U V (P 0 1))) (q_X8_gapIn L2 O P2 U (gV_X1_walk L2 P2 U (gV_X1_hold (gV_X1_walk L P U V (P 0 1)) (q_X1_walk L P U V (P 0 1))) ((P2 0 1) - 1)) (q_X1_walk L2 P2 U (gV_X1_hold (gV_X1_walk L P U V (P 0 1)) (q_X1_walk L P U V (P 0 1))) ((P2 0 1) - 1)))) (q_X1_walk L P U V (P 0 1))) (q_X1_nodeOf (gV_X1_drop (gV_X1_release (gV_X8_gapIn L2 O P2 U (gV_X1_walk L2 P2 U (gV_X1_hold (gV_X1_walk L P U V (P 0 1)) (q_X1_walk L P U V (P 0 1))) ((P2 0 1) - 1)) (q_X1_walk L2 P2 U (gV_X1_hold (gV_X1_walk L P U V (P 0 1)) (q_X1_walk L P U V (P 0 1))) ((P2 0 1) - 1))) (q_X1_walk L P U V (P 0 1))) (q_X8_gapIn L2 O P2 U (gV_X1_walk L2 P2 U (gV_X1_hold (gV_X1_walk L P U V (P 0 1)) (q_X1_walk L P U V (P 0 1))) ((P2 0 1) - 1)) (q_X1_walk L2 P2 U (gV_X1_hold (gV_X1_walk L P U V (P 0 1)) (q_X1_walk L P U V (P 0 1))) ((P2 0 1) - 1)))) (q_X1_walk L2 P2 U (gV_X1_hold (gV_X1_walk L P U V (P 0 1)) (q_X1_walk L P U V (P 0 1))) ((P2 0 1) - 1))) (q_X4_last L2 P2))) P2 (gV_X1_drop (gV_X1_release (gV_X8_gapIn L2 O P2 U (gV_X1_walk L2 P2 U (gV_X1_hold (gV_X1_walk L P U V (P 0 1)) (q_X1_walk L P U V (P 0 1))) ((P2 0 1) - 1)) (q_X1_walk L2 P2 U (gV_X1_hold (gV_X1_walk L P U V (P 0 1)) (q_X1_walk L P U V (P 0 1))) ((P2 0 1) - 1))) (q_X1_walk L P U V (P 0 1))) (q_X8_gapIn L2 O P2 U (gV_X1_walk L2 P2 U (gV_X1_hold (gV_X1_walk L P U V (P 0 1)) (q_X1_walk L P U V (P 0 1))) ((P2 0 1) - 1)) (q_X1_walk L2 P2 U (gV_X1_hold (gV_X1_walk L P U V (P 0 1)) (q_X1_walk L P U V (P 0 1))) ((P2 0 1) - 1)))) d_P2V]
        rw [s_X4_last hP2]
        rw [pt_comm (pt (pt (pt X o O) r P) n (gU_X2_move U (q_X1_nodeOf (gV_X1_drop (gV_X1_release (gV_X8_gapIn L2 O P2 U (gV_X1_walk L2 P2 U (gV_X1_hold (gV_X1_walk L P U V (P 0 1)) (q_X1_walk L P U V (P 0 1))) ((P2 0 1) - 1)) (q_X1_walk L2 P2 U (gV_X1_hold (gV_X1_walk L P U V (P 0 1)) (q_X1_walk L P U V (P 0 1))) ((P2 0 1) - 1))) (q_X1_walk L P U V (P 0 1))) (q_X8_gapIn L2 O P2 U (gV_X1_walk L2 P2 U (gV_X1_hold (gV_X1_walk L P U V (P 0 1)) (q_X1_walk L P U V (P 0 1))) ((P2 0 1) - 1)) (q_X1_walk L2 P2 U (gV_X1_hold (gV_X1_walk L P U V (P 0 1)) (q_X1_walk L P U V (P 0 1))) ((P2 0 1) - 1)))) (q_X1_walk L P U V (P 0 1))) (q_X1_nodeOf (gV_X1_drop (gV_X1_release (gV_X8_gapIn L2 O P2 U (gV_X1_walk L2 P2 U (gV_X1_hold (gV_X1_walk L P U V (P 0 1)) (q_X1_walk L P U V (P 0 1))) ((P2 0 1) - 1)) (q_X1_walk L2 P2 U (gV_X1_hold (gV_X1_walk L P U V (P 0 1)) (q_X1_walk L P U V (P 0 1))) ((P2 0 1) - 1))) (q_X1_walk L P U V (P 0 1))) (q_X8_gapIn L2 O P2 U (gV_X1_walk L2 P2 U (gV_X1_hold (gV_X1_walk L P U V (P 0 1)) (q_X1_walk L P U V (P 0 1))) ((P2 0 1) - 1)) (q_X1_walk L2 P2 U (gV_X1_hold (gV_X1_walk L P U V (P 0 1)) (q_X1_walk L P U V (P 0 1))) ((P2 0 1) - 1)))) (q_X1_walk L2 P2 U (gV_X1_hold (gV_X1_walk L P U V (P 0 1)) (q_X1_walk L P U V (P 0 1))) ((P2 0 1) - 1))) (q_X4_last L2 P2))) (gV_X1_drop (gV_X1_release (gV_X8_gapIn L2 O P2 U (gV_X1_walk L2 P2 U (gV_X1_hold (gV_X1_walk L P U V (P 0 1)) (q_X1_walk L P U V (P 0 1))) ((P2 0 1) - 1)) (q_X1_walk L2 P2 U (gV_X1_hold (gV_X1_walk L P U V (P 0 1)) (q_X1_walk L P U V (P 0 1))) ((P2 0 1) - 1))) (q_X1_walk L P U V (P 0 1))) (q_X8_gapIn L2 O P2 U (gV_X1_walk L2 P2 U (gV_X1_hold (gV_X1_walk L P U V (P 0 1)) (q_X1_walk L P U V (P 0 1))) ((P2 0 1) - 1)) (q_X1_walk L2 P2 U (gV_X1_hold (gV_X1_walk L P U V (P 0 1)) (q_X1_walk L P U V (P 0 1))) ((P2 0 1) - 1)))) P2 (Or.symm d_P2V), pt_comm (pt (pt X o O) r P) (gU_X2_move U (q_X1_nodeOf (gV_X1_drop (gV_X1_release (gV_X8_gapIn L2 O P2 U (gV_X1_walk L2 P2 U (gV_X1_hold (gV_X1_walk L P U V (P 0 1)) (q_X1_walk L P U V (P 0 1))) ((P2 0 1) - 1)) (q_X1_walk L2 P2 U (gV_X1_hold (gV_X1_walk L P U V (P 0 1)) (q_X1_walk L P U V (P 0 1))) ((P2 0 1) - 1))) (q_X1_walk L P U V (P 0 1))) (q_X8_gapIn L2 O P2 U (gV_X1_walk L2 P2 U (gV_X1_hold (gV_X1_walk L P U V (P 0 1)) (q_X1_walk L P U V (P 0 1))) ((P2 0 1) - 1)) (q_X1_walk L2 P2 U (gV_X1_hold (gV_X1_walk L P U V (P 0 1)) (q_X1_walk L P U V (P 0 1))) ((P2 0 1) - 1)))) (q_X1_walk L P U V (P 0 1))) (q_X1_nodeOf (gV_X1_drop (gV_X1_release (gV_X8_gapIn L2 O P2 U (gV_X1_walk L2 P2 U (gV_X1_hold (gV_X1_walk L P U V (P 0 1)) (q_X1_walk L P U V (P 0 1))) ((P2 0 1) - 1)) (q_X1_walk L2 P2 U (gV_X1_hold (gV_X1_walk L P U V (P 0 1)) (q_X1_walk L P U V (P 0 1))) ((P2 0 1) - 1))) (q_X1_walk L P U V (P 0 1))) (q_X8_gapIn L2 O P2 U (gV_X1_walk L2 P2 U (gV_X1_hold (gV_X1_walk L P U V (P 0 1)) (q_X1_walk L P U V (P 0 1))) ((P2 0 1) - 1)) (q_X1_walk L2 P2 U (gV_X1_hold (gV_X1_walk L P U V (P 0 1)) (q_X1_walk L P U V (P 0 1))) ((P2 0 1) - 1)))) (q_X1_walk L2 P2 U (gV_X1_hold (gV_X1_walk L P U V (P 0 1)) (q_X1_walk L P U V (P 0 1))) ((P2 0 1) - 1))) (q_X4_last L2 P2)) P2 (Or.symm d_P2U), pt_comm (pt X o O) P P2 (Or.symm d_P2P)]
        simp only [Option.bind_some, asI_I]
        try simp only [Option.bind_some]
        rewrite [if_pos (show kd (pt (pt (pt (pt (pt X o O) r2 P2) r P) n (gU_X2_move U (q_X1_nodeOf (gV_X1_drop (gV_X1_release (gV_X8_gapIn L2 O P2 U (gV_X1_walk L2 P2 U (gV_X1_hold (gV_X1_walk L P U V (P 0 1)) (q_X1_walk L P U V (P 0 1))) ((P2 0 1) - 1)) (q_X1_walk L2 P2 U (gV_X1_hold (gV_X1_walk L P U V (P 0 1)) (q_X1_walk L P U V (P 0 1))) ((P2 0 1) - 1))) (q_X1_walk L P U V (P 0 1))) (q_X8_gapIn L2 O P2 U (gV_X1_walk L2 P2 U (gV_X1_hold (gV_X1_walk L P U V (P 0 1)) (q_X1_walk L P U V (P 0 1))) ((P2 0 1) - 1)) (q_X1_walk L2 P2 U (gV_X1_hold (gV_X1_walk L P U V (P 0 1)) (q_X1_walk L P U V (P 0 1))) ((P2 0 1) - 1)))) (q_X1_walk L P U V (P 0 1))) (q_X1_nodeOf (gV_X1_drop (gV_X1_release (gV_X8_gapIn L2 O P2 U (gV_X1_walk L2 P2 U (gV_X1_hold (gV_X1_walk L P U V (P 0 1)) (q_X1_walk L P U V (P 0 1))) ((P2 0 1) - 1)) (q_X1_walk L2 P2 U (gV_X1_hold (gV_X1_walk L P U V (P 0 1)) (q_X1_walk L P U V (P 0 1))) ((P2 0 1) - 1))) (q_X1_walk L P U V (P 0 1))) (q_X8_gapIn L2 O P2 U (gV_X1_walk L2 P2 U (gV_X1_hold (gV_X1_walk L P U V (P 0 1)) (q_X1_walk L P U V (P 0 1))) ((P2 0 1) - 1)) (q_X1_walk L2 P2 U (gV_X1_hold (gV_X1_walk L P U V (P 0 1)) (q_X1_walk L P U V (P 0 1))) ((P2 0 1) - 1)))) (q_X1_walk L2 P2 U (gV_X1_hold (gV_X1_walk L P U V (P 0 1)) (q_X1_walk L P U V (P 0 1))) ((P2 0 1) - 1))) (q_X4_last L2 P2))) m (gV_X1_drop (gV_X1_release (gV_X8_gapIn L2 O P2 U (gV_X1_walk L2 P2 U (gV_X1_hold (gV_X1_walk L P U V (P 0 1)) (q_X1_walk L P U V (P 0 1))) ((P2 0 1) - 1)) (q_X1_walk L2 P2 U (gV_X1_hold (gV_X1_walk L P U V (P 0 1)) (q_X1_walk L P U V (P 0 1))) ((P2 0 1) - 1))) (q_X1_walk L P U V (P 0 1))) (q_X8_gapIn L2 O P2 U (gV_X1_walk L2 P2 U (gV_X1_hold (gV_X1_walk L P U V (P 0 1)) (q_X1_walk L P U V (P 0 1))) ((P2 0 1) - 1)) (q_X1_walk L2 P2 U (gV_X1_hold (gV_X1_walk L P U V (P 0 1)) (q_X1_walk L P U V (P 0 1))) ((P2 0 1) - 1)))), J) m = 1 from hM.k)]
        rewrite [s_X1_move hM]
        simp only [Option.bind_some, asV_n]
        exact hR
def q_X8_mountAt (L : Nat) (O : OneV) (P : RouV) (U : NodV) (V : MemV) (x2 : Int32) : Int32 := (if (q_X1_canChange (gV_X1_walk L P U V (P 0 1)) (q_X1_walk L P U V (P 0 1))) = 0 then (-1) else (if (q_X1_isFolder U (gV_X1_walk L P U V (P 0 1)) (q_X1_walk L P U V (P 0 1))) = 0 then (-1) else q_X1_cover U (gV_X1_walk L P U V (P 0 1)) (q_X1_walk L P U V (P 0 1)) x2))
def gV_X8_mountAt (L : Nat) (O : OneV) (P : RouV) (U : NodV) (V : MemV) (x2 : Int32) : MemV := (if (q_X1_canChange (gV_X1_walk L P U V (P 0 1)) (q_X1_walk L P U V (P 0 1))) = 0 then gV_X1_walk L P U V (P 0 1) else (if (q_X1_isFolder U (gV_X1_walk L P U V (P 0 1)) (q_X1_walk L P U V (P 0 1))) = 0 then gV_X1_walk L P U V (P 0 1) else gV_X1_cover U (gV_X1_walk L P U V (P 0 1)) (q_X1_walk L P U V (P 0 1)) x2))
theorem s_X8_mountAt {J : MJ} {o n m g z r L : Nat} (hO : WorL J o n m g z) (hP : RouL J r L) (hN : NodL J n) (hM : MemL J m n) (d_OP : o + 1 ≤ r ∨ r + 2 ≤ o) (d_OU : o + 1 ≤ n ∨ n + 6 ≤ o) (d_OV : o + 1 ≤ m ∨ m + 12 ≤ o) (d_PU : r + 2 ≤ n ∨ n + 6 ≤ r) (d_PV : r + 2 ≤ m ∨ m + 12 ≤ r) (d_UV : n + 6 ≤ m ∨ m + 12 ≤ n) (X : MI) (O : OneV) (P : RouV) (U : NodV) (V : MemV) (x2 : Int32) : M_X8_mountAt [mR (some o), mR (some r), mI x2] (pt (pt (pt (pt X o O) r P) n U) m V, J) = some (some (mI (q_X8_mountAt L O P U V x2)), (pt (pt (pt (pt X o O) r P) n U) m (gV_X8_mountAt L O P U V x2), J)) := by
  generalize hR : some (some (mI (q_X8_mountAt L O P U V x2)), (pt (pt (pt (pt X o O) r P) n U) m (gV_X8_mountAt L O P U V x2), J)) = R
  rw [E_X8_mountAt]
  unfold q_X8_mountAt gV_X8_mountAt at hR
  try rewrite [fR_ok 1 hO.k]
  try rewrite [Option.bind_some]
  try rewrite [hO.r1]
  try rewrite [fI_ok 1 hP.k]
  try rewrite [Option.bind_some]
  try rewrite [pt_out (x := r) (a := m) (by have := d_PV; omega)]
  try rewrite [pt_out (x := r) (a := n) (by have := d_PU; omega)]
  try rewrite [p2_0]
  try simp only [Option.bind_some]
  rewrite [if_pos (show kd (pt (pt (pt (pt X o O) r P) n U) m V, J) m = 1 from hM.k)]
  rewrite [s_X1_walk hP hN hM d_PU d_PV d_UV]
  simp only [Option.bind_some, asI_I]
  try rewrite [fR_ok 1 hO.k]
  try rewrite [Option.bind_some]
  try rewrite [hO.r1]
  try simp only [Option.bind_some]
  rewrite [if_pos (show kd (pt (pt (pt (pt X o O) r P) n U) m (gV_X1_walk L P U V (P 0 1)), J) m = 1 from hM.k)]
  rewrite [s_X1_canChange hM]
  simp only [Option.bind_some, asI_I]
  by_cases h1 : (q_X1_canChange (gV_X1_walk L P U V (P 0 1)) (q_X1_walk L P U V (P 0 1))) = 0
  · rewrite [if_pos h1]; simp only [if_pos h1] at hR
    first | rewrite [if_pos (show (0 : Int32) = 0 by decide)] | rewrite [if_pos trivial] | simp only [if_true]
    exact hR
  · rewrite [if_neg h1]; simp only [if_neg h1] at hR
    try rewrite [fR_ok 1 hO.k]
    try rewrite [Option.bind_some]
    try rewrite [hO.r1]
    try simp only [Option.bind_some]
    rewrite [if_pos (show kd (pt (pt (pt (pt X o O) r P) n U) m (gV_X1_walk L P U V (P 0 1)), J) m = 1 from hM.k)]
    rewrite [s_X1_isFolder hN hM d_UV]
    simp only [Option.bind_some, asI_I]
    by_cases h2 : (q_X1_isFolder U (gV_X1_walk L P U V (P 0 1)) (q_X1_walk L P U V (P 0 1))) = 0
    · rewrite [if_pos h2]; simp only [if_pos h2] at hR
      first | rewrite [if_pos (show (0 : Int32) = 0 by decide)] | rewrite [if_pos trivial] | simp only [if_true]
      exact hR
    · rewrite [if_neg h2]; simp only [if_neg h2] at hR
      first | rewrite [if_neg (show ¬ ((1 : Int32) = 0) by decide)] | rewrite [if_neg not_false] | simp only [if_false]
      try rewrite [fR_ok 1 hO.k]
      try rewrite [Option.bind_some]
      try rewrite [hO.r1]
      try simp only [Option.bind_some]
      rewrite [if_pos (show kd (pt (pt (pt (pt X o O) r P) n U) m (gV_X1_walk L P U V (P 0 1)), J) m = 1 from hM.k)]
      rewrite [s_X1_cover hN hM d_UV]
      simp only [Option.bind_some, asI_I]
      exact hR
def q_X8_isReachable (O : OneV) (U : NodV) (V : MemV) (x1 : Int32) : Int32 := (if (q_X2_exists U x1) = 0 then 0 else (if (q_X1_isMounted V (q_X2_volumeOf U x1)) = 0 then 0 else 1))
theorem s_X8_isReachable {J : MJ} {o n m g z : Nat} (hO : WorL J o n m g z) (hN : NodL J n) (hM : MemL J m n) (d_OU : o + 1 ≤ n ∨ n + 6 ≤ o) (d_OV : o + 1 ≤ m ∨ m + 12 ≤ o) (d_UV : n + 6 ≤ m ∨ m + 12 ≤ n) (X : MI) (O : OneV) (U : NodV) (V : MemV) (x1 : Int32) : M_X8_isReachable [mR (some o), mI x1] (pt (pt (pt X o O) n U) m V, J) = some (some (mI (q_X8_isReachable O U V x1)), (pt (pt (pt X o O) n U) m V, J)) := by
  generalize hR : some (some (mI (q_X8_isReachable O U V x1)), (pt (pt (pt X o O) n U) m V, J)) = R
  rw [E_X8_isReachable]
  unfold q_X8_isReachable at hR
  try rewrite [fR_ok 0 hO.k]
  try rewrite [Option.bind_some]
  try rewrite [hO.r0]
  try simp only [Option.bind_some]
  rewrite [if_pos (show kd (pt (pt (pt X o O) n U) m V, J) n = 2 from hN.k)]
  rw [pt_comm (pt X o O) U V d_UV]
  rw [s_X2_exists hN]
  rw [pt_comm (pt X o O) V U (Or.symm d_UV)]
  simp only [Option.bind_some, asI_I]
  by_cases h1 : (q_X2_exists U x1) = 0
  · rewrite [if_pos h1]; simp only [if_pos h1] at hR
    first | exact hR | (simp only [if_pos (show (0 : Int32) = 0 ∨ (0 : Int32) = 1 by decide), if_pos (show (1 : Int32) = 0 ∨ (1 : Int32) = 1 by decide)]; exact hR) | (simp; exact hR)
  · rewrite [if_neg h1]; simp only [if_neg h1] at hR
    try rewrite [fR_ok 1 hO.k]
    try rewrite [Option.bind_some]
    try rewrite [hO.r1]
    try rewrite [fR_ok 0 hO.k]
    try rewrite [Option.bind_some]
    try rewrite [hO.r0]
    try simp only [Option.bind_some]
    rewrite [if_pos (show kd (pt (pt (pt X o O) n U) m V, J) n = 2 from hN.k)]
    rw [pt_comm (pt X o O) U V d_UV]
    rw [s_X2_volumeOf hN]
    rw [pt_comm (pt X o O) V U (Or.symm d_UV)]
    simp only [Option.bind_some, asI_I]
    try simp only [Option.bind_some]
    rewrite [if_pos (show kd (pt (pt (pt X o O) n U) m V, J) m = 1 from hM.k)]
    rewrite [s_X1_isMounted hM]
    simp only [Option.bind_some, asI_I]
    by_cases h2 : (q_X1_isMounted V (q_X2_volumeOf U x1)) = 0
    · rewrite [if_pos h2]; simp only [if_pos h2] at hR
      first | exact hR | (simp only [if_pos (show (0 : Int32) = 0 ∨ (0 : Int32) = 1 by decide), if_pos (show (1 : Int32) = 0 ∨ (1 : Int32) = 1 by decide)]; exact hR) | (simp; exact hR)
    · rewrite [if_neg h2]; simp only [if_neg h2] at hR
      first | exact hR | (simp only [if_pos (show (0 : Int32) = 0 ∨ (0 : Int32) = 1 by decide), if_pos (show (1 : Int32) = 0 ∨ (1 : Int32) = 1 by decide)]; exact hR) | (simp; exact hR)
theorem b_X8_isReachable_0 {O : OneV} {U : NodV} {V : MemV} {x1 : Int32} (h : ¬ q_X8_isReachable O U V x1 = 0) : inb x1 60 := by
  unfold q_X8_isReachable at h
  by_cases k1 : (q_X2_exists U x1) = 0
  · simp only [if_pos k1] at h
    first | exact absurd rfl h | exact absurd trivial h
  · simp only [if_neg k1] at h
    by_cases k2 : (q_X1_isMounted V (q_X2_volumeOf U x1)) = 0
    · simp only [if_pos k2] at h
      first | exact absurd rfl h | exact absurd trivial h
    · simp only [if_neg k2] at h
      exact (b_X2_exists_0 k1)
theorem P_X8_mountedNodes {J : MJ} {o n m g z : Nat} (hO : WorL J o n m g z) (hN : NodL J n) (hM : MemL J m n) (d_OU : o + 1 ≤ n ∨ n + 6 ≤ o) (d_OV : o + 1 ≤ m ∨ m + 12 ≤ o) (d_UV : n + 6 ≤ m ∨ m + 12 ≤ n) (X : MI) (O : OneV) (U : NodV) (V : MemV) : M_X8_mountedNodes [mR (some o)] (pt (pt (pt X o O) n U) m V, J) = Ev T_X8_mountedNodes 4 [some (mR (some o)), some (mI 0), some (mI 0)] [] (pt (pt (pt X o O) n U) m V, J) := by
  generalize hR : Ev T_X8_mountedNodes 4 [some (mR (some o)), some (mI 0), some (mI 0)] [] (pt (pt (pt X o O) n U) m V, J) = R
  rw [E_X8_mountedNodes]
  exact hR
theorem P_X8_mountedNodes_4 {J : MJ} {o n m g z : Nat} (hO : WorL J o n m g z) (hN : NodL J n) (hM : MemL J m n) (d_OU : o + 1 ≤ n ∨ n + 6 ≤ o) (d_OV : o + 1 ≤ m ∨ m + 12 ≤ o) (d_UV : n + 6 ≤ m ∨ m + 12 ≤ n) (X : MI) (O : OneV) (U : NodV) (V : MemV) (x1 : Int32) (x2 : Int32) : Ev T_X8_mountedNodes 4 [some (mR (some o)), some (mI x1), some (mI x2)] [] (pt (pt (pt X o O) n U) m V, J) = (if (60 : Int32) ≤ x2 then some (some (mI x1), (pt (pt (pt X o O) n U) m V, J)) else (if (q_X8_isReachable O U V x2) = 0 then Ev T_X8_mountedNodes 4 [some (mR (some o)), some (mI (x1 + 0)), some (mI (x2 + 1))] [] (pt (pt (pt X o O) n U) m V, J) else Ev T_X8_mountedNodes 4 [some (mR (some o)), some (mI (x1 + 1)), some (mI (x2 + 1))] [] (pt (pt (pt X o O) n U) m V, J))) := by
  generalize hR : (if (60 : Int32) ≤ x2 then some (some (mI x1), (pt (pt (pt X o O) n U) m V, J)) else (if (q_X8_isReachable O U V x2) = 0 then Ev T_X8_mountedNodes 4 [some (mR (some o)), some (mI (x1 + 0)), some (mI (x2 + 1))] [] (pt (pt (pt X o O) n U) m V, J) else Ev T_X8_mountedNodes 4 [some (mR (some o)), some (mI (x1 + 1)), some (mI (x2 + 1))] [] (pt (pt (pt X o O) n U) m V, J))) = R
  rw [E_X8_mountedNodes_4]
  by_cases h1 : (60 : Int32) ≤ x2
  · rewrite [if_pos h1]; simp only [if_pos h1] at hR
    exact hR
  · rewrite [if_neg h1]; simp only [if_neg h1] at hR
    try simp only [Option.bind_some]
    rewrite [if_pos (show kd (pt (pt (pt X o O) n U) m V, J) o = 8 from hO.k)]
    rewrite [s_X8_isReachable hO hN hM d_OU d_OV d_UV]
    simp only [Option.bind_some, asI_I]
    by_cases h2 : (q_X8_isReachable O U V x2) = 0
    · rewrite [if_pos h2]; simp only [if_pos h2] at hR
      exact hR
    · rewrite [if_neg h2]; simp only [if_neg h2] at hR
      exact hR
def c_X8_mountedNodes (O : OneV) (U : NodV) (V : MemV)  : Nat := cnt (fun k => (if (q_X8_isReachable O U V (nI k)) = 0 then false else true)) 0 60
def ql_X8_mountedNodes (O : OneV) (U : NodV) (V : MemV)  : Int32 := nI (c_X8_mountedNodes O U V)
theorem l_X8_mountedNodes {J : MJ} {o n m g z : Nat} (hO : WorL J o n m g z) (hN : NodL J n) (hM : MemL J m n) (d_OU : o + 1 ≤ n ∨ n + 6 ≤ o) (d_OV : o + 1 ≤ m ∨ m + 12 ≤ o) (d_UV : n + 6 ≤ m ∨ m + 12 ≤ n) (X : MI) (O : OneV) (U : NodV) (V : MemV)  : Ev T_X8_mountedNodes 4 [some (mR (some o)), some (mI 0), some (mI 0)] [] (pt (pt (pt X o O) n U) m V, J) = some (some (mI (ql_X8_mountedNodes O U V)), (pt (pt (pt X o O) n U) m V, J)) := by
  have step := loop_cnt (fun k c => Ev T_X8_mountedNodes 4 [some (mR (some o)), some (mI (nI c)), some (mI (nI k))] [] (pt (pt (pt X o O) n U) m V, J)) (fun k => (if (q_X8_isReachable O U V (nI k)) = 0 then false else true)) 60 (fun k c hk => by
    try dsimp only
    rw [P_X8_mountedNodes_4 hO hN hM d_OU d_OV d_UV _ _ _ _ _ _, if_neg (show ¬ (60 : Int32) ≤ nI k from nI_ge hk (by decide))]
    try rw [ix_nI (by omega)]
    rw [nI_1 k]
    by_cases k1 : (q_X8_isReachable O U V (nI k)) = 0
    ·
      simp [k1, nI_1]
    ·
      simp [k1, nI_1]) 60 0 0 (by omega)
  have h0 : (nI 0) = 0 := rfl
  try dsimp only at step
  rw [h0] at step
  rw [step, P_X8_mountedNodes_4 hO hN hM d_OU d_OV d_UV _ _ _ _ _ _, if_pos (show (60 : Int32) ≤ nI 60 from Int32.le_refl _), Nat.zero_add]
  rfl
def q_X8_mountedNodes (O : OneV) (U : NodV) (V : MemV)  : Int32 := ql_X8_mountedNodes O U V
theorem s_X8_mountedNodes {J : MJ} {o n m g z : Nat} (hO : WorL J o n m g z) (hN : NodL J n) (hM : MemL J m n) (d_OU : o + 1 ≤ n ∨ n + 6 ≤ o) (d_OV : o + 1 ≤ m ∨ m + 12 ≤ o) (d_UV : n + 6 ≤ m ∨ m + 12 ≤ n) (X : MI) (O : OneV) (U : NodV) (V : MemV)  : M_X8_mountedNodes [mR (some o)] (pt (pt (pt X o O) n U) m V, J) = some (some (mI (q_X8_mountedNodes O U V)), (pt (pt (pt X o O) n U) m V, J)) := by
  rw [P_X8_mountedNodes hO hN hM d_OU d_OV d_UV]
  unfold q_X8_mountedNodes
  exact l_X8_mountedNodes hO hN hM d_OU d_OV d_UV _ _ _ _
theorem P_X8_mountedNode {J : MJ} {o n m g z : Nat} (hO : WorL J o n m g z) (hN : NodL J n) (hM : MemL J m n) (d_OU : o + 1 ≤ n ∨ n + 6 ≤ o) (d_OV : o + 1 ≤ m ∨ m + 12 ≤ o) (d_UV : n + 6 ≤ m ∨ m + 12 ≤ n) (X : MI) (O : OneV) (U : NodV) (V : MemV) (x1 : Int32) : M_X8_mountedNode [mR (some o), mI x1] (pt (pt (pt X o O) n U) m V, J) = Ev T_X8_mountedNode 4 [some (mR (some o)), none, some (mI x1), some (mI 0)] [] (pt (pt (pt X o O) n U) m V, J) := by
  generalize hR : Ev T_X8_mountedNode 4 [some (mR (some o)), none, some (mI x1), some (mI 0)] [] (pt (pt (pt X o O) n U) m V, J) = R
  rw [E_X8_mountedNode]
  exact hR
theorem P_X8_mountedNode_4 {J : MJ} {o n m g z : Nat} (hO : WorL J o n m g z) (hN : NodL J n) (hM : MemL J m n) (d_OU : o + 1 ≤ n ∨ n + 6 ≤ o) (d_OV : o + 1 ≤ m ∨ m + 12 ≤ o) (d_UV : n + 6 ≤ m ∨ m + 12 ≤ n) (X : MI) (O : OneV) (U : NodV) (V : MemV) (x2 : Int32) (x3 : Int32) : Ev T_X8_mountedNode 4 [some (mR (some o)), none, some (mI x2), some (mI x3)] [] (pt (pt (pt X o O) n U) m V, J) = (if (60 : Int32) ≤ x3 then some (some (mI ((-1))), (pt (pt (pt X o O) n U) m V, J)) else (if (q_X8_isReachable O U V x3) = 0 then Ev T_X8_mountedNode 4 [some (mR (some o)), none, some (mI x2), some (mI (x3 + 1))] [] (pt (pt (pt X o O) n U) m V, J) else (if x2 = 0 then some (some (mI x3), (pt (pt (pt X o O) n U) m V, J)) else Ev T_X8_mountedNode 4 [some (mR (some o)), none, some (mI (x2 + (-1))), some (mI (x3 + 1))] [] (pt (pt (pt X o O) n U) m V, J)))) := by
  generalize hR : (if (60 : Int32) ≤ x3 then some (some (mI ((-1))), (pt (pt (pt X o O) n U) m V, J)) else (if (q_X8_isReachable O U V x3) = 0 then Ev T_X8_mountedNode 4 [some (mR (some o)), none, some (mI x2), some (mI (x3 + 1))] [] (pt (pt (pt X o O) n U) m V, J) else (if x2 = 0 then some (some (mI x3), (pt (pt (pt X o O) n U) m V, J)) else Ev T_X8_mountedNode 4 [some (mR (some o)), none, some (mI (x2 + (-1))), some (mI (x3 + 1))] [] (pt (pt (pt X o O) n U) m V, J)))) = R
  rw [E_X8_mountedNode_4]
  by_cases h1 : (60 : Int32) ≤ x3
  · rewrite [if_pos h1]; simp only [if_pos h1] at hR
    exact hR
  · rewrite [if_neg h1]; simp only [if_neg h1] at hR
    try simp only [Option.bind_some]
    rewrite [if_pos (show kd (pt (pt (pt X o O) n U) m V, J) o = 8 from hO.k)]
    rewrite [s_X8_isReachable hO hN hM d_OU d_OV d_UV]
    simp only [Option.bind_some, asI_I]
    by_cases h2 : (q_X8_isReachable O U V x3) = 0
    · rewrite [if_pos h2]; simp only [if_pos h2] at hR
      exact hR
    · rewrite [if_neg h2]; simp only [if_neg h2] at hR
      by_cases h3 : x2 = 0
      · rewrite [if_pos h3]; simp only [if_pos h3] at hR
        exact hR
      · rewrite [if_neg h3]; simp only [if_neg h3] at hR
        exact hR
def lp_X8_mountedNode_4 (O : OneV) (U : NodV) (V : MemV) : Nat → Nat → Int32 → Int32
  | 0, k, x2 => ((-1))
  | nn + 1, k, x2 => (if (q_X8_isReachable O U V (nI k)) = 0 then lp_X8_mountedNode_4 O U V nn (k + 1) x2 else (if x2 = 0 then (nI k) else lp_X8_mountedNode_4 O U V nn (k + 1) (x2 + (-1))))
theorem lr_X8_mountedNode_4 {J : MJ} {o n m g z : Nat} (hO : WorL J o n m g z) (hN : NodL J n) (hM : MemL J m n) (d_OU : o + 1 ≤ n ∨ n + 6 ≤ o) (d_OV : o + 1 ≤ m ∨ m + 12 ≤ o) (d_UV : n + 6 ≤ m ∨ m + 12 ≤ n) (X : MI) (O : OneV) (U : NodV) (V : MemV) : ∀ (nn k : Nat) (x2 : Int32), k + nn = 60 → Ev T_X8_mountedNode 4 [some (mR (some o)), none, some (mI x2), some (mI (nI k))] [] (pt (pt (pt X o O) n U) m V, J) = some (some (mI ((lp_X8_mountedNode_4 O U V nn k x2))), (pt (pt (pt X o O) n U) m V, J)) := by
  intro nn
  induction nn with
  | zero =>
    intro k x2 hk
    have hk : k = 60 := by omega
    subst hk
    generalize hR : some (some (mI ((lp_X8_mountedNode_4 O U V 0 60 x2))), (pt (pt (pt X o O) n U) m V, J)) = R
    rw [lp_X8_mountedNode_4] at hR
    rw [P_X8_mountedNode_4 hO hN hM d_OU d_OV d_UV _ _ _ _ _ _]
    rewrite [if_pos (show (60 : Int32) ≤ nI 60 from Int32.le_refl _)]
    exact hR
  | succ nn ih =>
    intro k x2 hk
    generalize hR : some (some (mI ((lp_X8_mountedNode_4 O U V (nn + 1) k x2))), (pt (pt (pt X o O) n U) m V, J)) = R
    rw [lp_X8_mountedNode_4] at hR
    rw [P_X8_mountedNode_4 hO hN hM d_OU d_OV d_UV _ _ _ _ _ _]
    try rw [ix_nI (by omega)]
    rw [nI_1 k]
    rewrite [if_neg (show ¬ (60 : Int32) ≤ nI k from nI_ge (show k < 60 by omega) (by decide))]
    by_cases k1 : (q_X8_isReachable O U V (nI k)) = 0
    · rewrite [if_pos k1]; simp only [if_pos k1] at hR
      exact (ih (k + 1) _ (by omega)).trans hR
    · rewrite [if_neg k1]; simp only [if_neg k1] at hR
      by_cases k2 : x2 = 0
      · rewrite [if_pos k2]; simp only [if_pos k2] at hR
        exact hR
      · rewrite [if_neg k2]; simp only [if_neg k2] at hR
        exact (ih (k + 1) _ (by omega)).trans hR
def o_X8_mountedNode (O : OneV) (U : NodV) (V : MemV) (x1 : Int32) : Int32 := lp_X8_mountedNode_4 O U V 60 0 x1
def q_X8_mountedNode (O : OneV) (U : NodV) (V : MemV) (x1 : Int32) : Int32 := (o_X8_mountedNode O U V x1)
theorem s_X8_mountedNode {J : MJ} {o n m g z : Nat} (hO : WorL J o n m g z) (hN : NodL J n) (hM : MemL J m n) (d_OU : o + 1 ≤ n ∨ n + 6 ≤ o) (d_OV : o + 1 ≤ m ∨ m + 12 ≤ o) (d_UV : n + 6 ≤ m ∨ m + 12 ≤ n) (X : MI) (O : OneV) (U : NodV) (V : MemV) (x1 : Int32) : M_X8_mountedNode [mR (some o), mI x1] (pt (pt (pt X o O) n U) m V, J) = some (some (mI (q_X8_mountedNode O U V x1)), (pt (pt (pt X o O) n U) m V, J)) := by
  generalize hR : some (some (mI (q_X8_mountedNode O U V x1)), (pt (pt (pt X o O) n U) m V, J)) = R
  rw [P_X8_mountedNode hO hN hM d_OU d_OV d_UV]
  unfold q_X8_mountedNode o_X8_mountedNode at hR
  have z := lr_X8_mountedNode_4 hO hN hM d_OU d_OV d_UV X O U V 60 0 x1 (Nat.zero_add _)
  rw [show nI 0 = 0 from rfl] at z
  rw [z]
  rw [← hR]
theorem P_X8_routeTo {J : MJ} {o n m g z r L : Nat} (hO : WorL J o n m g z) (hP : RouL J r L) (hN : NodL J n) (hM : MemL J m n) (d_OP : o + 1 ≤ r ∨ r + 2 ≤ o) (d_OU : o + 1 ≤ n ∨ n + 6 ≤ o) (d_OV : o + 1 ≤ m ∨ m + 12 ≤ o) (d_PU : r + 2 ≤ n ∨ n + 6 ≤ r) (d_PV : r + 2 ≤ m ∨ m + 12 ≤ r) (d_UV : n + 6 ≤ m ∨ m + 12 ≤ n) (X : MI) (O : OneV) (P : RouV) (U : NodV) (V : MemV) (x1 : Int32) : M_X8_routeTo [mR (some o), mI x1, mR (some r)] (pt (pt (pt (pt X o O) r P) n U) m V, J) = Ev T_X8_routeTo 9 [some (mR (some o)), none, some (mR (some r)), some (mI x1), some (mI 0), none] [] (pt (pt (pt (pt X o O) r (gP_X4_clear L P)) n U) m V, J) := by
  generalize hR : Ev T_X8_routeTo 9 [some (mR (some o)), none, some (mR (some r)), some (mI x1), some (mI 0), none] [] (pt (pt (pt (pt X o O) r (gP_X4_clear L P)) n U) m V, J) = R
  rw [E_X8_routeTo]
  try simp only [Option.bind_some]
  rewrite [if_pos (show kd (pt (pt (pt (pt X o O) r P) n U) m V, J) r = 4 from hP.k)]
  rw [pt_comm (pt X o O) P U d_PU, pt_comm (pt (pt X o O) n U) P V d_PV]
  rw [s_X4_clear hP]
  rw [pt_comm (pt (pt X o O) n U) V (gP_X4_clear L P) (Or.symm d_PV), pt_comm (pt X o O) U (gP_X4_clear L P) (Or.symm d_PU)]
  simp only [Option.bind_some, asV_n]
  exact hR
theorem P_X8_routeTo_9 {J : MJ} {o n m g z r L : Nat} (hO : WorL J o n m g z) (hP : RouL J r L) (hN : NodL J n) (hM : MemL J m n) (d_OP : o + 1 ≤ r ∨ r + 2 ≤ o) (d_OU : o + 1 ≤ n ∨ n + 6 ≤ o) (d_OV : o + 1 ≤ m ∨ m + 12 ≤ o) (d_PU : r + 2 ≤ n ∨ n + 6 ≤ r) (d_PV : r + 2 ≤ m ∨ m + 12 ≤ r) (d_UV : n + 6 ≤ m ∨ m + 12 ≤ n) (X : MI) (O : OneV) (P : RouV) (U : NodV) (V : MemV) (x3 : Int32) (x4 : Int32) : Ev T_X8_routeTo 9 [some (mR (some o)), none, some (mR (some r)), some (mI x3), some (mI x4), none] [] (pt (pt (pt (pt X o O) r P) n U) m V, J) = (if (120 : Int32) ≤ x4 then some (none, (pt (pt (pt (pt X o O) r (gP_X4_turnAround L P)) n U) m V, J)) else (if (q_X2_exists U x3) = 0 then some (none, (pt (pt (pt (pt X o O) r (gP_X4_turnAround L P)) n U) m V, J)) else (if (q_X2_parentOf U x3) = ((-1)) then Ev T_X8_routeTo 9 [some (mR (some o)), none, some (mR (some r)), some (mI (q_X1_nodeOf V (q_X1_coveredBy V (q_X2_volumeOf U x3)))), some (mI (x4 + 1)), none] [] (pt (pt (pt (pt X o O) r P) n U) m V, J) else Ev T_X8_routeTo 9 [some (mR (some o)), none, some (mR (some r)), some (mI (q_X2_parentOf U x3)), some (mI (x4 + 1)), none] [] (pt (pt (pt (pt X o O) r (gP_X4_push L P (q_X2_nameOf U x3))) n U) m V, J)))) := by
  generalize hR : (if (120 : Int32) ≤ x4 then some (none, (pt (pt (pt (pt X o O) r (gP_X4_turnAround L P)) n U) m V, J)) else (if (q_X2_exists U x3) = 0 then some (none, (pt (pt (pt (pt X o O) r (gP_X4_turnAround L P)) n U) m V, J)) else (if (q_X2_parentOf U x3) = ((-1)) then Ev T_X8_routeTo 9 [some (mR (some o)), none, some (mR (some r)), some (mI (q_X1_nodeOf V (q_X1_coveredBy V (q_X2_volumeOf U x3)))), some (mI (x4 + 1)), none] [] (pt (pt (pt (pt X o O) r P) n U) m V, J) else Ev T_X8_routeTo 9 [some (mR (some o)), none, some (mR (some r)), some (mI (q_X2_parentOf U x3)), some (mI (x4 + 1)), none] [] (pt (pt (pt (pt X o O) r (gP_X4_push L P (q_X2_nameOf U x3))) n U) m V, J)))) = R
  rw [E_X8_routeTo_9]
  by_cases h1 : (120 : Int32) ≤ x4
  · rewrite [if_pos h1]; simp only [if_pos h1] at hR
    try simp only [Option.bind_some]
    rewrite [if_pos (show kd (pt (pt (pt (pt X o O) r P) n U) m V, J) r = 4 from hP.k)]
    rw [pt_comm (pt X o O) P U d_PU, pt_comm (pt (pt X o O) n U) P V d_PV]
    rw [s_X4_turnAround hP]
    rw [pt_comm (pt (pt X o O) n U) V (gP_X4_turnAround L P) (Or.symm d_PV), pt_comm (pt X o O) U (gP_X4_turnAround L P) (Or.symm d_PU)]
    simp only [Option.bind_some, asV_n]
    exact hR
  · rewrite [if_neg h1]; simp only [if_neg h1] at hR
    try rewrite [fR_ok 0 hO.k]
    try rewrite [Option.bind_some]
    try rewrite [hO.r0]
    try simp only [Option.bind_some]
    rewrite [if_pos (show kd (pt (pt (pt (pt X o O) r P) n U) m V, J) n = 2 from hN.k)]
    rw [pt_comm (pt (pt X o O) r P) U V d_UV]
    rw [s_X2_exists hN]
    rw [pt_comm (pt (pt X o O) r P) V U (Or.symm d_UV)]
    simp only [Option.bind_some, asI_I]
    by_cases h2 : (q_X2_exists U x3) = 0
    · rewrite [if_pos h2]; simp only [if_pos h2] at hR
      try simp only [Option.bind_some]
      rewrite [if_pos (show kd (pt (pt (pt (pt X o O) r P) n U) m V, J) r = 4 from hP.k)]
      rw [pt_comm (pt X o O) P U d_PU, pt_comm (pt (pt X o O) n U) P V d_PV]
      rw [s_X4_turnAround hP]
      rw [pt_comm (pt (pt X o O) n U) V (gP_X4_turnAround L P) (Or.symm d_PV), pt_comm (pt X o O) U (gP_X4_turnAround L P) (Or.symm d_PU)]
      simp only [Option.bind_some, asV_n]
      exact hR
    · rewrite [if_neg h2]; simp only [if_neg h2] at hR
      try rewrite [fR_ok 0 hO.k]
      try rewrite [Option.bind_some]
      try rewrite [hO.r0]
      try simp only [Option.bind_some]
      rewrite [if_pos (show kd (pt (pt (pt (pt X o O) r P) n U) m V, J) n = 2 from hN.k)]
      rw [pt_comm (pt (pt X o O) r P) U V d_UV]
      rw [s_X2_parentOf hN]
      rw [pt_comm (pt (pt X o O) r P) V U (Or.symm d_UV)]
      simp only [Option.bind_some, asI_I]
      by_cases h3 : (q_X2_parentOf U x3) = ((-1))
      · rewrite [if_pos h3]; simp only [if_pos h3] at hR
        try rewrite [fR_ok 1 hO.k]
        try rewrite [Option.bind_some]
        try rewrite [hO.r1]
        try rewrite [fR_ok 1 hO.k]
        try rewrite [Option.bind_some]
        try rewrite [hO.r1]
        try rewrite [fR_ok 0 hO.k]
        try rewrite [Option.bind_some]
        try rewrite [hO.r0]
        try simp only [Option.bind_some]
        rewrite [if_pos (show kd (pt (pt (pt (pt X o O) r P) n U) m V, J) n = 2 from hN.k)]
        rw [pt_comm (pt (pt X o O) r P) U V d_UV]
        rw [s_X2_volumeOf hN]
        rw [pt_comm (pt (pt X o O) r P) V U (Or.symm d_UV)]
        simp only [Option.bind_some, asI_I]
        try simp only [Option.bind_some]
        rewrite [if_pos (show kd (pt (pt (pt (pt X o O) r P) n U) m V, J) m = 1 from hM.k)]
        rewrite [s_X1_coveredBy hM]
        simp only [Option.bind_some, asI_I]
        try simp only [Option.bind_some]
        rewrite [if_pos (show kd (pt (pt (pt (pt X o O) r P) n U) m V, J) m = 1 from hM.k)]
        rewrite [s_X1_nodeOf hM]
        simp only [Option.bind_some, asI_I]
        exact hR
      · rewrite [if_neg h3]; simp only [if_neg h3] at hR
        try rewrite [fR_ok 0 hO.k]
        try rewrite [Option.bind_some]
        try rewrite [hO.r0]
        try simp only [Option.bind_some]
        rewrite [if_pos (show kd (pt (pt (pt (pt X o O) r P) n U) m V, J) n = 2 from hN.k)]
        rw [pt_comm (pt (pt X o O) r P) U V d_UV]
        rw [s_X2_nameOf hN]
        rw [pt_comm (pt (pt X o O) r P) V U (Or.symm d_UV)]
        simp only [Option.bind_some, asI_I]
        try simp only [Option.bind_some]
        rewrite [if_pos (show kd (pt (pt (pt (pt X o O) r P) n U) m V, J) r = 4 from hP.k)]
        rw [pt_comm (pt X o O) P U d_PU, pt_comm (pt (pt X o O) n U) P V d_PV]
        rw [s_X4_push hP]
        rw [pt_comm (pt (pt X o O) n U) V (gP_X4_push L P (q_X2_nameOf U x3)) (Or.symm d_PV), pt_comm (pt X o O) U (gP_X4_push L P (q_X2_nameOf U x3)) (Or.symm d_PU)]
        simp only [Option.bind_some, asI_I]
        exact hR
def lp_X8_routeTo_9 (L : Nat) (O : OneV) (U : NodV) (V : MemV) : Nat → Nat → Int32 → RouV → RouV
  | 0, k, x3, P => (gP_X4_turnAround L P)
  | nn + 1, k, x3, P => (if (q_X2_exists U x3) = 0 then (gP_X4_turnAround L P) else (if (q_X2_parentOf U x3) = ((-1)) then lp_X8_routeTo_9 L O U V nn (k + 1) (q_X1_nodeOf V (q_X1_coveredBy V (q_X2_volumeOf U x3))) P else lp_X8_routeTo_9 L O U V nn (k + 1) (q_X2_parentOf U x3) (gP_X4_push L P (q_X2_nameOf U x3))))
theorem lr_X8_routeTo_9 {J : MJ} {o n m g z r L : Nat} (hO : WorL J o n m g z) (hP : RouL J r L) (hN : NodL J n) (hM : MemL J m n) (d_OP : o + 1 ≤ r ∨ r + 2 ≤ o) (d_OU : o + 1 ≤ n ∨ n + 6 ≤ o) (d_OV : o + 1 ≤ m ∨ m + 12 ≤ o) (d_PU : r + 2 ≤ n ∨ n + 6 ≤ r) (d_PV : r + 2 ≤ m ∨ m + 12 ≤ r) (d_UV : n + 6 ≤ m ∨ m + 12 ≤ n) (X : MI) (O : OneV) (U : NodV) (V : MemV) : ∀ (nn k : Nat) (x3 : Int32) (P : RouV), k + nn = 120 → Ev T_X8_routeTo 9 [some (mR (some o)), none, some (mR (some r)), some (mI x3), some (mI (nI k)), none] [] (pt (pt (pt (pt X o O) r P) n U) m V, J) = some (none, (pt (pt (pt (pt X o O) r ((lp_X8_routeTo_9 L O U V nn k x3 P))) n U) m V, J)) := by
  intro nn
  induction nn with
  | zero =>
    intro k x3 P hk
    have hk : k = 120 := by omega
    subst hk
    generalize hR : some (none, (pt (pt (pt (pt X o O) r ((lp_X8_routeTo_9 L O U V 0 120 x3 P))) n U) m V, J)) = R
    rw [lp_X8_routeTo_9] at hR
    rw [P_X8_routeTo_9 hO hP hN hM d_OP d_OU d_OV d_PU d_PV d_UV _ _ _ _ _ _ _]
    rewrite [if_pos (show (120 : Int32) ≤ nI 120 from Int32.le_refl _)]
    exact hR
  | succ nn ih =>
    intro k x3 P hk
    generalize hR : some (none, (pt (pt (pt (pt X o O) r ((lp_X8_routeTo_9 L O U V (nn + 1) k x3 P))) n U) m V, J)) = R
    rw [lp_X8_routeTo_9] at hR
    rw [P_X8_routeTo_9 hO hP hN hM d_OP d_OU d_OV d_PU d_PV d_UV _ _ _ _ _ _ _]
    try rw [ix_nI (by omega)]
    rw [nI_1 k]
    rewrite [if_neg (show ¬ (120 : Int32) ≤ nI k from nI_ge (show k < 120 by omega) (by decide))]
    by_cases k1 : (q_X2_exists U x3) = 0
    · rewrite [if_pos k1]; simp only [if_pos k1] at hR
      exact hR
    · rewrite [if_neg k1]; simp only [if_neg k1] at hR
      by_cases k2 : (q_X2_parentOf U x3) = ((-1))
      · rewrite [if_pos k2]; simp only [if_pos k2] at hR
        exact (ih (k + 1) _ _ (by omega)).trans hR
      · rewrite [if_neg k2]; simp only [if_neg k2] at hR
        exact (ih (k + 1) _ _ (by omega)).trans hR
def o_X8_routeTo (L : Nat) (O : OneV) (P : RouV) (U : NodV) (V : MemV) (x1 : Int32) : RouV := lp_X8_routeTo_9 L O U V 120 0 x1 (gP_X4_clear L P)
def gP_X8_routeTo (L : Nat) (O : OneV) (P : RouV) (U : NodV) (V : MemV) (x1 : Int32) : RouV := (o_X8_routeTo L O P U V x1)
theorem s_X8_routeTo {J : MJ} {o n m g z r L : Nat} (hO : WorL J o n m g z) (hP : RouL J r L) (hN : NodL J n) (hM : MemL J m n) (d_OP : o + 1 ≤ r ∨ r + 2 ≤ o) (d_OU : o + 1 ≤ n ∨ n + 6 ≤ o) (d_OV : o + 1 ≤ m ∨ m + 12 ≤ o) (d_PU : r + 2 ≤ n ∨ n + 6 ≤ r) (d_PV : r + 2 ≤ m ∨ m + 12 ≤ r) (d_UV : n + 6 ≤ m ∨ m + 12 ≤ n) (X : MI) (O : OneV) (P : RouV) (U : NodV) (V : MemV) (x1 : Int32) : M_X8_routeTo [mR (some o), mI x1, mR (some r)] (pt (pt (pt (pt X o O) r P) n U) m V, J) = some (none, (pt (pt (pt (pt X o O) r ((gP_X8_routeTo L O P U V x1))) n U) m V, J)) := by
  generalize hR : some (none, (pt (pt (pt (pt X o O) r ((gP_X8_routeTo L O P U V x1))) n U) m V, J)) = R
  rw [P_X8_routeTo hO hP hN hM d_OP d_OU d_OV d_PU d_PV d_UV]
  unfold gP_X8_routeTo o_X8_routeTo at hR
  have z := lr_X8_routeTo_9 hO hP hN hM d_OP d_OU d_OV d_PU d_PV d_UV X O U V 120 0 x1 (gP_X4_clear L P) (Nat.zero_add _)
  rw [show nI 0 = 0 from rfl] at z
  rw [z]
  rw [← hR]
def q_X3_fail (E : OneV) (x1 : Int32) (x2 : Int32) : Int32 := 0
def gE_X3_fail (E : OneV) (x1 : Int32) (x2 : Int32) : OneV := uv (uv E 0 1 x1) 0 2 x2
theorem s_X3_fail {J : MJ} {e n : Nat} (hE : RdrL J e n) (X : MI) (E : OneV) (x1 : Int32) (x2 : Int32) : M_X3_fail [mR (some e), mI x1, mI x2] (pt X e E, J) = some (some (mI (q_X3_fail E x1 x2)), (pt X e (gE_X3_fail E x1 x2), J)) := by
  generalize hR : some (some (mI (q_X3_fail E x1 x2)), (pt X e (gE_X3_fail E x1 x2), J)) = R
  rw [E_X3_fail]
  unfold q_X3_fail gE_X3_fail at hR
  try rewrite [wI_ok 1 _ hE.k]
  try rewrite [Option.bind_some]
  try rewrite [u1_0]
  try rewrite [wI_ok 2 _ hE.k]
  try rewrite [Option.bind_some]
  try rewrite [u1_0]
  first | exact hR | (simp only [if_pos (show (0 : Int32) = 0 ∨ (0 : Int32) = 1 by decide), if_pos (show (1 : Int32) = 0 ∨ (1 : Int32) = 1 by decide)]; exact hR) | (simp; exact hR)
theorem z_X3_fail (E : OneV) (x1 : Int32) (x2 : Int32) : q_X3_fail E x1 x2 = 0 ∨ q_X3_fail E x1 x2 = 1 := by
  unfold q_X3_fail
  first | exact Or.inl rfl | simp
def q_X3_openFolder (E : OneV) (U : NodV) (x1 : Int32) : Int32 := (if (E 0 4) < 8 then 1 else q_X3_fail E 5 (E 0 3))
def gE_X3_openFolder (E : OneV) (U : NodV) (x1 : Int32) : OneV := (if (E 0 4) < 8 then uv (uv (uv E 0 5 x1) 0 4 ((E 0 4) + 1)) 0 3 ((E 0 3) + 1) else gE_X3_fail E 5 (E 0 3))
def gU_X3_openFolder (E : OneV) (U : NodV) (x1 : Int32) : NodV := (if (E 0 4) < 8 then gU_X2_becomeFolder U x1 else U)
theorem s_X3_openFolder {J : MJ} {e n : Nat} (hE : RdrL J e n) (hN : NodL J n) (d_EU : e + 1 ≤ n ∨ n + 6 ≤ e) (X : MI) (E : OneV) (U : NodV) (x1 : Int32) : M_X3_openFolder [mR (some e), mI x1] (pt (pt X e E) n U, J) = some (some (mI (q_X3_openFolder E U x1)), (pt (pt X e (gE_X3_openFolder E U x1)) n (gU_X3_openFolder E U x1), J)) := by
  generalize hR : some (some (mI (q_X3_openFolder E U x1)), (pt (pt X e (gE_X3_openFolder E U x1)) n (gU_X3_openFolder E U x1), J)) = R
  rw [E_X3_openFolder]
  unfold q_X3_openFolder gE_X3_openFolder gU_X3_openFolder at hR
  try rewrite [fI_ok 4 hE.k]
  try rewrite [Option.bind_some]
  try rewrite [pt_out (x := e) (a := n) (by have := d_EU; omega)]
  try rewrite [p1_0]
  by_cases h1 : (E 0 4) < 8
  · rewrite [if_pos h1]; simp only [if_pos h1] at hR
    try rewrite [fR_ok 0 hE.k]
    try rewrite [Option.bind_some]
    try rewrite [hE.r0]
    try simp only [Option.bind_some]
    rewrite [if_pos (show kd (pt (pt X e E) n U, J) n = 2 from hN.k)]
    rewrite [s_X2_becomeFolder hN]
    simp only [Option.bind_some, asV_n]
    try rewrite [wI_ok 5 _ hE.k]
    try rewrite [Option.bind_some]
    try rewrite [up_out (x := e) (a := n) (by have := d_EU; omega)]
    try rewrite [u1_0]
    try rewrite [fI_ok 4 hE.k]
    try rewrite [Option.bind_some]
    try rewrite [pt_out (x := e) (a := n) (by have := d_EU; omega)]
    try rewrite [p1_0]
    try rewrite [uv_n _ _ _ _ _ _ (by decide)]
    try rewrite [wI_ok 4 _ hE.k]
    try rewrite [Option.bind_some]
    try rewrite [up_out (x := e) (a := n) (by have := d_EU; omega)]
    try rewrite [u1_0]
    try rewrite [fI_ok 3 hE.k]
    try rewrite [Option.bind_some]
    try rewrite [pt_out (x := e) (a := n) (by have := d_EU; omega)]
    try rewrite [p1_0]
    try rewrite [uv_n _ _ _ _ _ _ (by decide)]
    try rewrite [uv_n _ _ _ _ _ _ (by decide)]
    try rewrite [wI_ok 3 _ hE.k]
    try rewrite [Option.bind_some]
    try rewrite [up_out (x := e) (a := n) (by have := d_EU; omega)]
    try rewrite [u1_0]
    first | exact hR | (simp only [if_pos (show (0 : Int32) = 0 ∨ (0 : Int32) = 1 by decide), if_pos (show (1 : Int32) = 0 ∨ (1 : Int32) = 1 by decide)]; exact hR) | (simp; exact hR)
  · rewrite [if_neg h1]; simp only [if_neg h1] at hR
    try rewrite [fI_ok 3 hE.k]
    try rewrite [Option.bind_some]
    try rewrite [pt_out (x := e) (a := n) (by have := d_EU; omega)]
    try rewrite [p1_0]
    try simp only [Option.bind_some]
    rewrite [if_pos (show kd (pt (pt X e E) n U, J) e = 3 from hE.k)]
    rw [pt_comm X E U d_EU]
    rw [s_X3_fail hE]
    rw [pt_comm X U (gE_X3_fail E 5 (E 0 3)) (Or.symm d_EU)]
    simp only [Option.bind_some, asI_I]
    try rewrite [if_pos (z_X3_fail ..)]
    exact hR
theorem z_X3_openFolder (E : OneV) (U : NodV) (x1 : Int32) : q_X3_openFolder E U x1 = 0 ∨ q_X3_openFolder E U x1 = 1 := by
  unfold q_X3_openFolder
  by_cases k1 : (E 0 4) < 8
  · simp only [if_pos k1]
    first | exact Or.inr rfl | simp
  · simp only [if_neg k1]
    exact z_X3_fail ..
theorem P_X3_readItem {J : MJ} {e n t : Nat} (hE : RdrL J e n) (hT : TapL J t) (hN : NodL J n) (d_EQ : e + 1 ≤ t ∨ t + 2 ≤ e) (d_EU : e + 1 ≤ n ∨ n + 6 ≤ e) (d_QU : t + 2 ≤ n ∨ n + 6 ≤ t) (X : MI) (E : OneV) (Q : RouV) (U : NodV) : M_X3_readItem [mR (some e), mR (some t)] (pt (pt (pt X e E) t Q) n U, J) = (if (U 0 5) < 40 then Ev T_X3_readItem 24 [some (mR (some e)), some (mR (some t)), some (mI (E 0 3)), none, none] [] (pt (pt (pt X e E) t Q) n U, J) else some (some (mI (q_X3_fail E 5 (E 0 3))), (pt (pt (pt X e (gE_X3_fail E 5 (E 0 3))) t Q) n U, J))) := by
  generalize hR : (if (U 0 5) < 40 then Ev T_X3_readItem 24 [some (mR (some e)), some (mR (some t)), some (mI (E 0 3)), none, none] [] (pt (pt (pt X e E) t Q) n U, J) else some (some (mI (q_X3_fail E 5 (E 0 3))), (pt (pt (pt X e (gE_X3_fail E 5 (E 0 3))) t Q) n U, J))) = R
  rw [E_X3_readItem]
  try rewrite [fI_ok 3 hE.k]
  try rewrite [Option.bind_some]
  try rewrite [pt_out (x := e) (a := n) (by have := d_EU; omega)]
  try rewrite [pt_out (x := e) (a := t) (by have := d_EQ; omega)]
  try rewrite [p1_0]
  try rewrite [fR_ok 0 hE.k]
  try rewrite [Option.bind_some]
  try rewrite [hE.r0]
  try simp only [Option.bind_some]
  try rewrite [fI_ok 5 hN.k]
  try rewrite [Option.bind_some]
  try rewrite [p6_0]
  by_cases h1 : (U 0 5) < 40
  · rewrite [if_pos h1]; simp only [if_pos h1] at hR
    exact hR
  · rewrite [if_neg h1]; simp only [if_neg h1] at hR
    try simp only [Option.bind_some]
    rewrite [if_pos (show kd (pt (pt (pt X e E) t Q) n U, J) e = 3 from hE.k)]
    rw [pt_comm X E Q d_EQ, pt_comm (pt X t Q) E U d_EU]
    rw [s_X3_fail hE]
    rw [pt_comm (pt X t Q) U (gE_X3_fail E 5 (E 0 3)) (Or.symm d_EU), pt_comm X Q (gE_X3_fail E 5 (E 0 3)) (Or.symm d_EQ)]
    simp only [Option.bind_some, asI_I]
    try rewrite [if_pos (z_X3_fail ..)]
    exact hR
theorem P_X3_readItem_24 {J : MJ} {e n t : Nat} (hE : RdrL J e n) (hT : TapL J t) (hN : NodL J n) (d_EQ : e + 1 ≤ t ∨ t + 2 ≤ e) (d_EU : e + 1 ≤ n ∨ n + 6 ≤ e) (d_QU : t + 2 ≤ n ∨ n + 6 ≤ t) (X : MI) (E : OneV) (Q : RouV) (U : NodV) (x2 : Int32) : Ev T_X3_readItem 24 [some (mR (some e)), some (mR (some t)), some (mI x2), none, none] [] (pt (pt (pt X e E) t Q) n U, J) = (if (4 : Int32) ≤ ((E 0 3) - x2) then (if (q_X9_isLetter (q_X5_at Q (E 0 3))) = 0 then (if (q_X2_find U (E 0 5) (q_X9_nameBetween Q x2 (E 0 3))) = ((-1)) then (if (q_X5_at Q ((gE_X3_skipBlanks E Q) 0 3)) = 123 then (if (q_X3_openFolder (gE_X3_skipBlanks E Q) (gU_X2_addIn U (E 0 5) (q_X9_nameBetween Q x2 (E 0 3)) 1) (q_X2_addIn U (E 0 5) (q_X9_nameBetween Q x2 (E 0 3)) 1)) = 0 then some (some (mI 0), (pt (pt (pt X e (gE_X3_openFolder (gE_X3_skipBlanks E Q) (gU_X2_addIn U (E 0 5) (q_X9_nameBetween Q x2 (E 0 3)) 1) (q_X2_addIn U (E 0 5) (q_X9_nameBetween Q x2 (E 0 3)) 1))) t Q) n (gU_X3_openFolder (gE_X3_skipBlanks E Q) (gU_X2_addIn U (E 0 5) (q_X9_nameBetween Q x2 (E 0 3)) 1) (q_X2_addIn U (E 0 5) (q_X9_nameBetween Q x2 (E 0 3)) 1)), J)) else some (some (mI 1), (pt (pt (pt X e (gE_X3_openFolder (gE_X3_skipBlanks E Q) (gU_X2_addIn U (E 0 5) (q_X9_nameBetween Q x2 (E 0 3)) 1) (q_X2_addIn U (E 0 5) (q_X9_nameBetween Q x2 (E 0 3)) 1))) t Q) n (gU_X3_openFolder (gE_X3_skipBlanks E Q) (gU_X2_addIn U (E 0 5) (q_X9_nameBetween Q x2 (E 0 3)) 1) (q_X2_addIn U (E 0 5) (q_X9_nameBetween Q x2 (E 0 3)) 1)), J))) else some (some (mI 1), (pt (pt (pt X e (gE_X3_skipBlanks E Q)) t Q) n (gU_X2_addIn U (E 0 5) (q_X9_nameBetween Q x2 (E 0 3)) 1), J))) else some (some (mI (q_X3_fail E 3 x2)), (pt (pt (pt X e (gE_X3_fail E 3 x2)) t Q) n U, J))) else some (some (mI (q_X3_fail E 1 (E 0 3))), (pt (pt (pt X e (gE_X3_fail E 1 (E 0 3))) t Q) n U, J))) else (if (q_X9_isLetter (q_X5_at Q (E 0 3))) = 0 then (if (q_X2_find U (E 0 5) (q_X9_nameBetween Q x2 (E 0 3))) = ((-1)) then (if (q_X5_at Q ((gE_X3_skipBlanks E Q) 0 3)) = 123 then (if (q_X3_openFolder (gE_X3_skipBlanks E Q) (gU_X2_addIn U (E 0 5) (q_X9_nameBetween Q x2 (E 0 3)) 1) (q_X2_addIn U (E 0 5) (q_X9_nameBetween Q x2 (E 0 3)) 1)) = 0 then some (some (mI 0), (pt (pt (pt X e (gE_X3_openFolder (gE_X3_skipBlanks E Q) (gU_X2_addIn U (E 0 5) (q_X9_nameBetween Q x2 (E 0 3)) 1) (q_X2_addIn U (E 0 5) (q_X9_nameBetween Q x2 (E 0 3)) 1))) t Q) n (gU_X3_openFolder (gE_X3_skipBlanks E Q) (gU_X2_addIn U (E 0 5) (q_X9_nameBetween Q x2 (E 0 3)) 1) (q_X2_addIn U (E 0 5) (q_X9_nameBetween Q x2 (E 0 3)) 1)), J)) else some (some (mI 1), (pt (pt (pt X e (gE_X3_openFolder (gE_X3_skipBlanks E Q) (gU_X2_addIn U (E 0 5) (q_X9_nameBetween Q x2 (E 0 3)) 1) (q_X2_addIn U (E 0 5) (q_X9_nameBetween Q x2 (E 0 3)) 1))) t Q) n (gU_X3_openFolder (gE_X3_skipBlanks E Q) (gU_X2_addIn U (E 0 5) (q_X9_nameBetween Q x2 (E 0 3)) 1) (q_X2_addIn U (E 0 5) (q_X9_nameBetween Q x2 (E 0 3)) 1)), J))) else some (some (mI 1), (pt (pt (pt X e (gE_X3_skipBlanks E Q)) t Q) n (gU_X2_addIn U (E 0 5) (q_X9_nameBetween Q x2 (E 0 3)) 1), J))) else some (some (mI (q_X3_fail E 3 x2)), (pt (pt (pt X e (gE_X3_fail E 3 x2)) t Q) n U, J))) else Ev T_X3_readItem 24 [some (mR (some e)), some (mR (some t)), some (mI x2), none, none] [] (pt (pt (pt X e (uv E 0 3 ((E 0 3) + 1))) t Q) n U, J))) := by
  generalize hR : (if (4 : Int32) ≤ ((E 0 3) - x2) then (if (q_X9_isLetter (q_X5_at Q (E 0 3))) = 0 then (if (q_X2_find U (E 0 5) (q_X9_nameBetween Q x2 (E 0 3))) = ((-1)) then (if (q_X5_at Q ((gE_X3_skipBlanks E Q) 0 3)) = 123 then (if (q_X3_openFolder (gE_X3_skipBlanks E Q) (gU_X2_addIn U (E 0 5) (q_X9_nameBetween Q x2 (E 0 3)) 1) (q_X2_addIn U (E 0 5) (q_X9_nameBetween Q x2 (E 0 3)) 1)) = 0 then some (some (mI 0), (pt (pt (pt X e (gE_X3_openFolder (gE_X3_skipBlanks E Q) (gU_X2_addIn U (E 0 5) (q_X9_nameBetween Q x2 (E 0 3)) 1) (q_X2_addIn U (E 0 5) (q_X9_nameBetween Q x2 (E 0 3)) 1))) t Q) n (gU_X3_openFolder (gE_X3_skipBlanks E Q) (gU_X2_addIn U (E 0 5) (q_X9_nameBetween Q x2 (E 0 3)) 1) (q_X2_addIn U (E 0 5) (q_X9_nameBetween Q x2 (E 0 3)) 1)), J)) else some (some (mI 1), (pt (pt (pt X e (gE_X3_openFolder (gE_X3_skipBlanks E Q) (gU_X2_addIn U (E 0 5) (q_X9_nameBetween Q x2 (E 0 3)) 1) (q_X2_addIn U (E 0 5) (q_X9_nameBetween Q x2 (E 0 3)) 1))) t Q) n (gU_X3_openFolder (gE_X3_skipBlanks E Q) (gU_X2_addIn U (E 0 5) (q_X9_nameBetween Q x2 (E 0 3)) 1) (q_X2_addIn U (E 0 5) (q_X9_nameBetween Q x2 (E 0 3)) 1)), J))) else some (some (mI 1), (pt (pt (pt X e (gE_X3_skipBlanks E Q)) t Q) n (gU_X2_addIn U (E 0 5) (q_X9_nameBetween Q x2 (E 0 3)) 1), J))) else some (some (mI (q_X3_fail E 3 x2)), (pt (pt (pt X e (gE_X3_fail E 3 x2)) t Q) n U, J))) else some (some (mI (q_X3_fail E 1 (E 0 3))), (pt (pt (pt X e (gE_X3_fail E 1 (E 0 3))) t Q) n U, J))) else (if (q_X9_isLetter (q_X5_at Q (E 0 3))) = 0 then (if (q_X2_find U (E 0 5) (q_X9_nameBetween Q x2 (E 0 3))) = ((-1)) then (if (q_X5_at Q ((gE_X3_skipBlanks E Q) 0 3)) = 123 then (if (q_X3_openFolder (gE_X3_skipBlanks E Q) (gU_X2_addIn U (E 0 5) (q_X9_nameBetween Q x2 (E 0 3)) 1) (q_X2_addIn U (E 0 5) (q_X9_nameBetween Q x2 (E 0 3)) 1)) = 0 then some (some (mI 0), (pt (pt (pt X e (gE_X3_openFolder (gE_X3_skipBlanks E Q) (gU_X2_addIn U (E 0 5) (q_X9_nameBetween Q x2 (E 0 3)) 1) (q_X2_addIn U (E 0 5) (q_X9_nameBetween Q x2 (E 0 3)) 1))) t Q) n (gU_X3_openFolder (gE_X3_skipBlanks E Q) (gU_X2_addIn U (E 0 5) (q_X9_nameBetween Q x2 (E 0 3)) 1) (q_X2_addIn U (E 0 5) (q_X9_nameBetween Q x2 (E 0 3)) 1)), J)) else some (some (mI 1), (pt (pt (pt X e (gE_X3_openFolder (gE_X3_skipBlanks E Q) (gU_X2_addIn U (E 0 5) (q_X9_nameBetween Q x2 (E 0 3)) 1) (q_X2_addIn U (E 0 5) (q_X9_nameBetween Q x2 (E 0 3)) 1))) t Q) n (gU_X3_openFolder (gE_X3_skipBlanks E Q) (gU_X2_addIn U (E 0 5) (q_X9_nameBetween Q x2 (E 0 3)) 1) (q_X2_addIn U (E 0 5) (q_X9_nameBetween Q x2 (E 0 3)) 1)), J))) else some (some (mI 1), (pt (pt (pt X e (gE_X3_skipBlanks E Q)) t Q) n (gU_X2_addIn U (E 0 5) (q_X9_nameBetween Q x2 (E 0 3)) 1), J))) else some (some (mI (q_X3_fail E 3 x2)), (pt (pt (pt X e (gE_X3_fail E 3 x2)) t Q) n U, J))) else Ev T_X3_readItem 24 [some (mR (some e)), some (mR (some t)), some (mI x2), none, none] [] (pt (pt (pt X e (uv E 0 3 ((E 0 3) + 1))) t Q) n U, J))) = R
  rw [E_X3_readItem_24]
  try rewrite [fI_ok 3 hE.k]
  try rewrite [Option.bind_some]
  try rewrite [pt_out (x := e) (a := n) (by have := d_EU; omega)]
  try rewrite [pt_out (x := e) (a := t) (by have := d_EQ; omega)]
  try rewrite [p1_0]
  by_cases h1 : (4 : Int32) ≤ ((E 0 3) - x2)
  · rewrite [if_pos h1]; simp only [if_pos h1] at hR
    try rewrite [fI_ok 3 hE.k]
    try rewrite [Option.bind_some]
    try rewrite [pt_out (x := e) (a := n) (by have := d_EU; omega)]
    try rewrite [pt_out (x := e) (a := t) (by have := d_EQ; omega)]
    try rewrite [p1_0]
    try simp only [Option.bind_some]
    rewrite [if_pos (show kd (pt (pt (pt X e E) t Q) n U, J) t = 5 from hT.k)]
    rw [pt_comm (pt X e E) Q U d_QU]
    rw [s_X5_at hT]
    rw [pt_comm (pt X e E) U Q (Or.symm d_QU)]
    simp only [Option.bind_some, asI_I]
    try simp only [Option.bind_some]
    rewrite [s_X9_isLetter ]
    simp only [Option.bind_some, asI_I]
    by_cases h2 : (q_X9_isLetter (q_X5_at Q (E 0 3))) = 0
    · rewrite [if_pos h2]; simp only [if_pos h2] at hR
      try rewrite [fI_ok 3 hE.k]
      try rewrite [Option.bind_some]
      try rewrite [pt_out (x := e) (a := n) (by have := d_EU; omega)]
      try rewrite [pt_out (x := e) (a := t) (by have := d_EQ; omega)]
      try rewrite [p1_0]
      try simp only [Option.bind_some]
      rw [pt_comm (pt X e E) Q U d_QU]
      rw [s_X9_nameBetween hT]
      rw [pt_comm (pt X e E) U Q (Or.symm d_QU)]
      simp only [Option.bind_some, asI_I]
      try rewrite [fR_ok 0 hE.k]
      try rewrite [Option.bind_some]
      try rewrite [hE.r0]
      try rewrite [fI_ok 5 hE.k]
      try rewrite [Option.bind_some]
      try rewrite [pt_out (x := e) (a := n) (by have := d_EU; omega)]
      try rewrite [pt_out (x := e) (a := t) (by have := d_EQ; omega)]
      try rewrite [p1_0]
      try simp only [Option.bind_some]
      rewrite [if_pos (show kd (pt (pt (pt X e E) t Q) n U, J) n = 2 from hN.k)]
      rewrite [s_X2_find hN]
      simp only [Option.bind_some, asI_I]
      by_cases h3 : (q_X2_find U (E 0 5) (q_X9_nameBetween Q x2 (E 0 3))) = ((-1))
      · rewrite [if_pos h3]; simp only [if_pos h3] at hR
        try rewrite [fR_ok 0 hE.k]
        try rewrite [Option.bind_some]
        try rewrite [hE.r0]
        try rewrite [fI_ok 5 hE.k]
        try rewrite [Option.bind_some]
        try rewrite [pt_out (x := e) (a := n) (by have := d_EU; omega)]
        try rewrite [pt_out (x := e) (a := t) (by have := d_EQ; omega)]
        try rewrite [p1_0]
        try simp only [Option.bind_some]
        rewrite [if_pos (show kd (pt (pt (pt X e E) t Q) n U, J) n = 2 from hN.k)]
        rewrite [s_X2_addIn hN]
        simp only [Option.bind_some, asI_I]
        try simp only [Option.bind_some]
        rewrite [if_pos (show kd (pt (pt (pt X e E) t Q) n (gU_X2_addIn U (E 0 5) (q_X9_nameBetween Q x2 (E 0 3)) 1), J) e = 3 from hE.k)]
        rw [pt_comm (pt X e E) Q (gU_X2_addIn U (E 0 5) (q_X9_nameBetween Q x2 (E 0 3)) 1) d_QU, pt_comm X E (gU_X2_addIn U (E 0 5) (q_X9_nameBetween Q x2 (E 0 3)) 1) d_EU]
        rw [s_X3_skipBlanks hE hT d_EQ]
        rw [pt_comm X (gU_X2_addIn U (E 0 5) (q_X9_nameBetween Q x2 (E 0 3)) 1) (gE_X3_skipBlanks E Q) (Or.symm d_EU), pt_comm (pt X e (gE_X3_skipBlanks E Q)) (gU_X2_addIn U (E 0 5) (q_X9_nameBetween Q x2 (E 0 3)) 1) Q (Or.symm d_QU)]
        simp only [Option.bind_some, asV_n]
        try rewrite [fI_ok 3 hE.k]
        try rewrite [Option.bind_some]
        try rewrite [pt_out (x := e) (a := n) (by have := d_EU; omega)]
        try rewrite [pt_out (x := e) (a := t) (by have := d_EQ; omega)]
        try rewrite [p1_0]
        try simp only [Option.bind_some]
        rewrite [if_pos (show kd (pt (pt (pt X e (gE_X3_skipBlanks E Q)) t Q) n (gU_X2_addIn U (E 0 5) (q_X9_nameBetween Q x2 (E 0 3)) 1), J) t = 5 from hT.k)]
        rw [pt_comm (pt X e (gE_X3_skipBlanks E Q)) Q (gU_X2_addIn U (E 0 5) (q_X9_nameBetween Q x2 (E 0 3)) 1) d_QU]
        rw [s_X5_at hT]
        rw [pt_comm (pt X e (gE_X3_skipBlanks E Q)) (gU_X2_addIn U (E 0 5) (q_X9_nameBetween Q x2 (E 0 3)) 1) Q (Or.symm d_QU)]
        simp only [Option.bind_some, asI_I]
        by_cases h4 : (q_X5_at Q ((gE_X3_skipBlanks E Q) 0 3)) = 123
        · rewrite [if_pos h4]; simp only [if_pos h4] at hR
          try simp only [Option.bind_some]
          rewrite [if_pos (show kd (pt (pt (pt X e (gE_X3_skipBlanks E Q)) t Q) n (gU_X2_addIn U (E 0 5) (q_X9_nameBetween Q x2 (E 0 3)) 1), J) e = 3 from hE.k)]
          rw [pt_comm X (gE_X3_skipBlanks E Q) Q d_EQ]
          rw [s_X3_openFolder hE hN d_EU]
          rw [pt_comm X Q (gE_X3_openFolder (gE_X3_skipBlanks E Q) (gU_X2_addIn U (E 0 5) (q_X9_nameBetween Q x2 (E 0 3)) 1) (q_X2_addIn U (E 0 5) (q_X9_nameBetween Q x2 (E 0 3)) 1)) (Or.symm d_EQ)]
          simp only [Option.bind_some, asI_I]
          by_cases h5 : (q_X3_openFolder (gE_X3_skipBlanks E Q) (gU_X2_addIn U (E 0 5) (q_X9_nameBetween Q x2 (E 0 3)) 1) (q_X2_addIn U (E 0 5) (q_X9_nameBetween Q x2 (E 0 3)) 1)) = 0
          · rewrite [if_pos h5]; simp only [if_pos h5] at hR
            first | exact hR | (simp only [if_pos (show (0 : Int32) = 0 ∨ (0 : Int32) = 1 by decide), if_pos (show (1 : Int32) = 0 ∨ (1 : Int32) = 1 by decide)]; exact hR) | (simp; exact hR)
          · rewrite [if_neg h5]; simp only [if_neg h5] at hR
            first | exact hR | (simp only [if_pos (show (0 : Int32) = 0 ∨ (0 : Int32) = 1 by decide), if_pos (show (1 : Int32) = 0 ∨ (1 : Int32) = 1 by decide)]; exact hR) | (simp; exact hR)
        · rewrite [if_neg h4]; simp only [if_neg h4] at hR
          first | exact hR | (simp only [if_pos (show (0 : Int32) = 0 ∨ (0 : Int32) = 1 by decide), if_pos (show (1 : Int32) = 0 ∨ (1 : Int32) = 1 by decide)]; exact hR) | (simp; exact hR)
      · rewrite [if_neg h3]; simp only [if_neg h3] at hR
        try simp only [Option.bind_some]
        rewrite [if_pos (show kd (pt (pt (pt X e E) t Q) n U, J) e = 3 from hE.k)]
        rw [pt_comm X E Q d_EQ, pt_comm (pt X t Q) E U d_EU]
        rw [s_X3_fail hE]
        rw [pt_comm (pt X t Q) U (gE_X3_fail E 3 x2) (Or.symm d_EU), pt_comm X Q (gE_X3_fail E 3 x2) (Or.symm d_EQ)]
        simp only [Option.bind_some, asI_I]
        try rewrite [if_pos (z_X3_fail ..)]
        exact hR
    · rewrite [if_neg h2]; simp only [if_neg h2] at hR
      try rewrite [fI_ok 3 hE.k]
      try rewrite [Option.bind_some]
      try rewrite [pt_out (x := e) (a := n) (by have := d_EU; omega)]
      try rewrite [pt_out (x := e) (a := t) (by have := d_EQ; omega)]
      try rewrite [p1_0]
      try simp only [Option.bind_some]
      rewrite [if_pos (show kd (pt (pt (pt X e E) t Q) n U, J) e = 3 from hE.k)]
      rw [pt_comm X E Q d_EQ, pt_comm (pt X t Q) E U d_EU]
      rw [s_X3_fail hE]
      rw [pt_comm (pt X t Q) U (gE_X3_fail E 1 (E 0 3)) (Or.symm d_EU), pt_comm X Q (gE_X3_fail E 1 (E 0 3)) (Or.symm d_EQ)]
      simp only [Option.bind_some, asI_I]
      try rewrite [if_pos (z_X3_fail ..)]
      exact hR
  · rewrite [if_neg h1]; simp only [if_neg h1] at hR
    try rewrite [fI_ok 3 hE.k]
    try rewrite [Option.bind_some]
    try rewrite [pt_out (x := e) (a := n) (by have := d_EU; omega)]
    try rewrite [pt_out (x := e) (a := t) (by have := d_EQ; omega)]
    try rewrite [p1_0]
    try simp only [Option.bind_some]
    rewrite [if_pos (show kd (pt (pt (pt X e E) t Q) n U, J) t = 5 from hT.k)]
    rw [pt_comm (pt X e E) Q U d_QU]
    rw [s_X5_at hT]
    rw [pt_comm (pt X e E) U Q (Or.symm d_QU)]
    simp only [Option.bind_some, asI_I]
    try simp only [Option.bind_some]
    rewrite [s_X9_isLetter ]
    simp only [Option.bind_some, asI_I]
    by_cases h6 : (q_X9_isLetter (q_X5_at Q (E 0 3))) = 0
    · rewrite [if_pos h6]; simp only [if_pos h6] at hR
      try rewrite [fI_ok 3 hE.k]
      try rewrite [Option.bind_some]
      try rewrite [pt_out (x := e) (a := n) (by have := d_EU; omega)]
      try rewrite [pt_out (x := e) (a := t) (by have := d_EQ; omega)]
      try rewrite [p1_0]
      try simp only [Option.bind_some]
      rewrite [if_pos (show kd (pt (pt (pt X e E) t Q) n U, J) t = 5 from hT.k)]
      rw [pt_comm (pt X e E) Q U d_QU]
      rw [s_X5_at hT]
      rw [pt_comm (pt X e E) U Q (Or.symm d_QU)]
      simp only [Option.bind_some, asI_I]
      try simp only [Option.bind_some]
      rewrite [s_X9_isLetter ]
      simp only [Option.bind_some, asI_I]
      try rewrite [if_pos h6]
      try rewrite [fI_ok 3 hE.k]
      try rewrite [Option.bind_some]
      try rewrite [pt_out (x := e) (a := n) (by have := d_EU; omega)]
      try rewrite [pt_out (x := e) (a := t) (by have := d_EQ; omega)]
      try rewrite [p1_0]
      try simp only [Option.bind_some]
      rw [pt_comm (pt X e E) Q U d_QU]
      rw [s_X9_nameBetween hT]
      rw [pt_comm (pt X e E) U Q (Or.symm d_QU)]
      simp only [Option.bind_some, asI_I]
      try rewrite [fR_ok 0 hE.k]
      try rewrite [Option.bind_some]
      try rewrite [hE.r0]
      try rewrite [fI_ok 5 hE.k]
      try rewrite [Option.bind_some]
      try rewrite [pt_out (x := e) (a := n) (by have := d_EU; omega)]
      try rewrite [pt_out (x := e) (a := t) (by have := d_EQ; omega)]
      try rewrite [p1_0]
      try simp only [Option.bind_some]
      rewrite [if_pos (show kd (pt (pt (pt X e E) t Q) n U, J) n = 2 from hN.k)]
      rewrite [s_X2_find hN]
      simp only [Option.bind_some, asI_I]
      by_cases h7 : (q_X2_find U (E 0 5) (q_X9_nameBetween Q x2 (E 0 3))) = ((-1))
      · rewrite [if_pos h7]; simp only [if_pos h7] at hR
        try rewrite [fR_ok 0 hE.k]
        try rewrite [Option.bind_some]
        try rewrite [hE.r0]
        try rewrite [fI_ok 5 hE.k]
        try rewrite [Option.bind_some]
        try rewrite [pt_out (x := e) (a := n) (by have := d_EU; omega)]
        try rewrite [pt_out (x := e) (a := t) (by have := d_EQ; omega)]
        try rewrite [p1_0]
        try simp only [Option.bind_some]
        rewrite [if_pos (show kd (pt (pt (pt X e E) t Q) n U, J) n = 2 from hN.k)]
        rewrite [s_X2_addIn hN]
        simp only [Option.bind_some, asI_I]
        try simp only [Option.bind_some]
        rewrite [if_pos (show kd (pt (pt (pt X e E) t Q) n (gU_X2_addIn U (E 0 5) (q_X9_nameBetween Q x2 (E 0 3)) 1), J) e = 3 from hE.k)]
        rw [pt_comm (pt X e E) Q (gU_X2_addIn U (E 0 5) (q_X9_nameBetween Q x2 (E 0 3)) 1) d_QU, pt_comm X E (gU_X2_addIn U (E 0 5) (q_X9_nameBetween Q x2 (E 0 3)) 1) d_EU]
        rw [s_X3_skipBlanks hE hT d_EQ]
        rw [pt_comm X (gU_X2_addIn U (E 0 5) (q_X9_nameBetween Q x2 (E 0 3)) 1) (gE_X3_skipBlanks E Q) (Or.symm d_EU), pt_comm (pt X e (gE_X3_skipBlanks E Q)) (gU_X2_addIn U (E 0 5) (q_X9_nameBetween Q x2 (E 0 3)) 1) Q (Or.symm d_QU)]
        simp only [Option.bind_some, asV_n]
        try rewrite [fI_ok 3 hE.k]
        try rewrite [Option.bind_some]
        try rewrite [pt_out (x := e) (a := n) (by have := d_EU; omega)]
        try rewrite [pt_out (x := e) (a := t) (by have := d_EQ; omega)]
        try rewrite [p1_0]
        try simp only [Option.bind_some]
        rewrite [if_pos (show kd (pt (pt (pt X e (gE_X3_skipBlanks E Q)) t Q) n (gU_X2_addIn U (E 0 5) (q_X9_nameBetween Q x2 (E 0 3)) 1), J) t = 5 from hT.k)]
        rw [pt_comm (pt X e (gE_X3_skipBlanks E Q)) Q (gU_X2_addIn U (E 0 5) (q_X9_nameBetween Q x2 (E 0 3)) 1) d_QU]
        rw [s_X5_at hT]
        rw [pt_comm (pt X e (gE_X3_skipBlanks E Q)) (gU_X2_addIn U (E 0 5) (q_X9_nameBetween Q x2 (E 0 3)) 1) Q (Or.symm d_QU)]
        simp only [Option.bind_some, asI_I]
        by_cases h8 : (q_X5_at Q ((gE_X3_skipBlanks E Q) 0 3)) = 123
        · rewrite [if_pos h8]; simp only [if_pos h8] at hR
          try simp only [Option.bind_some]
          rewrite [if_pos (show kd (pt (pt (pt X e (gE_X3_skipBlanks E Q)) t Q) n (gU_X2_addIn U (E 0 5) (q_X9_nameBetween Q x2 (E 0 3)) 1), J) e = 3 from hE.k)]
          rw [pt_comm X (gE_X3_skipBlanks E Q) Q d_EQ]
          rw [s_X3_openFolder hE hN d_EU]
          rw [pt_comm X Q (gE_X3_openFolder (gE_X3_skipBlanks E Q) (gU_X2_addIn U (E 0 5) (q_X9_nameBetween Q x2 (E 0 3)) 1) (q_X2_addIn U (E 0 5) (q_X9_nameBetween Q x2 (E 0 3)) 1)) (Or.symm d_EQ)]
          simp only [Option.bind_some, asI_I]
          by_cases h9 : (q_X3_openFolder (gE_X3_skipBlanks E Q) (gU_X2_addIn U (E 0 5) (q_X9_nameBetween Q x2 (E 0 3)) 1) (q_X2_addIn U (E 0 5) (q_X9_nameBetween Q x2 (E 0 3)) 1)) = 0
          · rewrite [if_pos h9]; simp only [if_pos h9] at hR
            first | exact hR | (simp only [if_pos (show (0 : Int32) = 0 ∨ (0 : Int32) = 1 by decide), if_pos (show (1 : Int32) = 0 ∨ (1 : Int32) = 1 by decide)]; exact hR) | (simp; exact hR)
          · rewrite [if_neg h9]; simp only [if_neg h9] at hR
            first | exact hR | (simp only [if_pos (show (0 : Int32) = 0 ∨ (0 : Int32) = 1 by decide), if_pos (show (1 : Int32) = 0 ∨ (1 : Int32) = 1 by decide)]; exact hR) | (simp; exact hR)
        · rewrite [if_neg h8]; simp only [if_neg h8] at hR
          first | exact hR | (simp only [if_pos (show (0 : Int32) = 0 ∨ (0 : Int32) = 1 by decide), if_pos (show (1 : Int32) = 0 ∨ (1 : Int32) = 1 by decide)]; exact hR) | (simp; exact hR)
      · rewrite [if_neg h7]; simp only [if_neg h7] at hR
        try simp only [Option.bind_some]
        rewrite [if_pos (show kd (pt (pt (pt X e E) t Q) n U, J) e = 3 from hE.k)]
        rw [pt_comm X E Q d_EQ, pt_comm (pt X t Q) E U d_EU]
        rw [s_X3_fail hE]
        rw [pt_comm (pt X t Q) U (gE_X3_fail E 3 x2) (Or.symm d_EU), pt_comm X Q (gE_X3_fail E 3 x2) (Or.symm d_EQ)]
        simp only [Option.bind_some, asI_I]
        try rewrite [if_pos (z_X3_fail ..)]
        exact hR
    · rewrite [if_neg h6]; simp only [if_neg h6] at hR
      try rewrite [fI_ok 3 hE.k]
      try rewrite [Option.bind_some]
      try rewrite [pt_out (x := e) (a := n) (by have := d_EU; omega)]
      try rewrite [pt_out (x := e) (a := t) (by have := d_EQ; omega)]
      try rewrite [p1_0]
      try rewrite [wI_ok 3 _ hE.k]
      try rewrite [Option.bind_some]
      try rewrite [up_out (x := e) (a := n) (by have := d_EU; omega)]
      try rewrite [up_out (x := e) (a := t) (by have := d_EQ; omega)]
      try rewrite [u1_0]
      exact hR
def q_X3_readOutside (E : OneV) (U : NodV) (x1 : Int32) : Int32 := (if x1 = ((-1)) then (if (U 0 6) = 0 then (if (q_X3_fail E 1 (E 0 3)) = 0 then 0 else 1) else 0) else (if (U 0 6) < 3 then (if x1 = 59 then (if (40 : Int32) ≤ (U 0 5) then q_X3_fail E 5 (E 0 3) else (if (q_X2_addVolume U) = 0 then q_X3_fail E 5 (E 0 3) else 1)) else (if (q_X9_isLetter x1) = 0 then q_X3_fail E 1 (E 0 3) else (if (40 : Int32) ≤ (U 0 5) then q_X3_fail E 5 (E 0 3) else (if (q_X2_addVolume U) = 0 then q_X3_fail E 5 (E 0 3) else 1)))) else q_X3_fail E 5 (E 0 3)))
def gE_X3_readOutside (E : OneV) (U : NodV) (x1 : Int32) : OneV := (if x1 = ((-1)) then (if (U 0 6) = 0 then (if (q_X3_fail E 1 (E 0 3)) = 0 then gE_X3_fail E 1 (E 0 3) else gE_X3_fail E 1 (E 0 3)) else E) else (if (U 0 6) < 3 then (if x1 = 59 then (if (40 : Int32) ≤ (U 0 5) then gE_X3_fail E 5 (E 0 3) else (if (q_X2_addVolume U) = 0 then gE_X3_fail E 5 (E 0 3) else uv (uv E 0 5 (q_X2_rootOf (gU_X2_addVolume U) (((gU_X2_addVolume U) 0 6) - 1))) 0 6 1)) else (if (q_X9_isLetter x1) = 0 then gE_X3_fail E 1 (E 0 3) else (if (40 : Int32) ≤ (U 0 5) then gE_X3_fail E 5 (E 0 3) else (if (q_X2_addVolume U) = 0 then gE_X3_fail E 5 (E 0 3) else uv (uv E 0 5 (q_X2_rootOf (gU_X2_addVolume U) (((gU_X2_addVolume U) 0 6) - 1))) 0 6 1)))) else gE_X3_fail E 5 (E 0 3)))
def gU_X3_readOutside (E : OneV) (U : NodV) (x1 : Int32) : NodV := (if x1 = ((-1)) then (if (U 0 6) = 0 then (if (q_X3_fail E 1 (E 0 3)) = 0 then U else U) else U) else (if (U 0 6) < 3 then (if x1 = 59 then (if (40 : Int32) ≤ (U 0 5) then U else (if (q_X2_addVolume U) = 0 then gU_X2_addVolume U else gU_X2_addVolume U)) else (if (q_X9_isLetter x1) = 0 then U else (if (40 : Int32) ≤ (U 0 5) then U else (if (q_X2_addVolume U) = 0 then gU_X2_addVolume U else gU_X2_addVolume U)))) else U))
theorem s_X3_readOutside {J : MJ} {e n : Nat} (hE : RdrL J e n) (hN : NodL J n) (d_EU : e + 1 ≤ n ∨ n + 6 ≤ e) (X : MI) (E : OneV) (U : NodV) (x1 : Int32) : M_X3_readOutside [mR (some e), mI x1] (pt (pt X e E) n U, J) = some (some (mI (q_X3_readOutside E U x1)), (pt (pt X e (gE_X3_readOutside E U x1)) n (gU_X3_readOutside E U x1), J)) := by
  generalize hR : some (some (mI (q_X3_readOutside E U x1)), (pt (pt X e (gE_X3_readOutside E U x1)) n (gU_X3_readOutside E U x1), J)) = R
  rw [E_X3_readOutside]
  unfold q_X3_readOutside gE_X3_readOutside gU_X3_readOutside at hR
  by_cases h1 : x1 = ((-1))
  · rewrite [if_pos h1]; simp only [if_pos h1] at hR
    try rewrite [fR_ok 0 hE.k]
    try rewrite [Option.bind_some]
    try rewrite [hE.r0]
    try simp only [Option.bind_some]
    try rewrite [fI_ok 6 hN.k]
    try rewrite [Option.bind_some]
    try rewrite [p6_0]
    by_cases h2 : (U 0 6) = 0
    · rewrite [if_pos h2]; simp only [if_pos h2] at hR
      try rewrite [fI_ok 3 hE.k]
      try rewrite [Option.bind_some]
      try rewrite [pt_out (x := e) (a := n) (by have := d_EU; omega)]
      try rewrite [p1_0]
      try simp only [Option.bind_some]
      rewrite [if_pos (show kd (pt (pt X e E) n U, J) e = 3 from hE.k)]
      rw [pt_comm X E U d_EU]
      rw [s_X3_fail hE]
      rw [pt_comm X U (gE_X3_fail E 1 (E 0 3)) (Or.symm d_EU)]
      simp only [Option.bind_some, asI_I]
      by_cases h3 : (q_X3_fail E 1 (E 0 3)) = 0
      · rewrite [if_pos h3]; simp only [if_pos h3] at hR
        first | exact hR | (simp only [if_pos (show (0 : Int32) = 0 ∨ (0 : Int32) = 1 by decide), if_pos (show (1 : Int32) = 0 ∨ (1 : Int32) = 1 by decide)]; exact hR) | (simp; exact hR)
      · rewrite [if_neg h3]; simp only [if_neg h3] at hR
        first | exact hR | (simp only [if_pos (show (0 : Int32) = 0 ∨ (0 : Int32) = 1 by decide), if_pos (show (1 : Int32) = 0 ∨ (1 : Int32) = 1 by decide)]; exact hR) | (simp; exact hR)
    · rewrite [if_neg h2]; simp only [if_neg h2] at hR
      first | exact hR | (simp only [if_pos (show (0 : Int32) = 0 ∨ (0 : Int32) = 1 by decide), if_pos (show (1 : Int32) = 0 ∨ (1 : Int32) = 1 by decide)]; exact hR) | (simp; exact hR)
  · rewrite [if_neg h1]; simp only [if_neg h1] at hR
    try rewrite [fR_ok 0 hE.k]
    try rewrite [Option.bind_some]
    try rewrite [hE.r0]
    try simp only [Option.bind_some]
    try rewrite [fI_ok 6 hN.k]
    try rewrite [Option.bind_some]
    try rewrite [p6_0]
    by_cases h4 : (U 0 6) < 3
    · rewrite [if_pos h4]; simp only [if_pos h4] at hR
      by_cases h5 : x1 = 59
      · rewrite [if_pos h5]; simp only [if_pos h5] at hR
        try rewrite [fR_ok 0 hE.k]
        try rewrite [Option.bind_some]
        try rewrite [hE.r0]
        try simp only [Option.bind_some]
        try rewrite [fI_ok 5 hN.k]
        try rewrite [Option.bind_some]
        try rewrite [p6_0]
        by_cases h6 : (40 : Int32) ≤ (U 0 5)
        · rewrite [if_pos h6]; simp only [if_pos h6] at hR
          try rewrite [fI_ok 3 hE.k]
          try rewrite [Option.bind_some]
          try rewrite [pt_out (x := e) (a := n) (by have := d_EU; omega)]
          try rewrite [p1_0]
          try simp only [Option.bind_some]
          rewrite [if_pos (show kd (pt (pt X e E) n U, J) e = 3 from hE.k)]
          rw [pt_comm X E U d_EU]
          rw [s_X3_fail hE]
          rw [pt_comm X U (gE_X3_fail E 5 (E 0 3)) (Or.symm d_EU)]
          simp only [Option.bind_some, asI_I]
          try rewrite [if_pos (z_X3_fail ..)]
          exact hR
        · rewrite [if_neg h6]; simp only [if_neg h6] at hR
          try rewrite [fR_ok 0 hE.k]
          try rewrite [Option.bind_some]
          try rewrite [hE.r0]
          try simp only [Option.bind_some]
          rewrite [if_pos (show kd (pt (pt X e E) n U, J) n = 2 from hN.k)]
          rewrite [s_X2_addVolume hN]
          simp only [Option.bind_some, asI_I]
          by_cases h7 : (q_X2_addVolume U) = 0
          · rewrite [if_pos h7]; simp only [if_pos h7] at hR
            try rewrite [fI_ok 3 hE.k]
            try rewrite [Option.bind_some]
            try rewrite [pt_out (x := e) (a := n) (by have := d_EU; omega)]
            try rewrite [p1_0]
            try simp only [Option.bind_some]
            rewrite [if_pos (show kd (pt (pt X e E) n (gU_X2_addVolume U), J) e = 3 from hE.k)]
            rw [pt_comm X E (gU_X2_addVolume U) d_EU]
            rw [s_X3_fail hE]
            rw [pt_comm X (gU_X2_addVolume U) (gE_X3_fail E 5 (E 0 3)) (Or.symm d_EU)]
            simp only [Option.bind_some, asI_I]
            try rewrite [if_pos (z_X3_fail ..)]
            exact hR
          · rewrite [if_neg h7]; simp only [if_neg h7] at hR
            try rewrite [fR_ok 0 hE.k]
            try rewrite [Option.bind_some]
            try rewrite [hE.r0]
            try rewrite [fR_ok 0 hE.k]
            try rewrite [Option.bind_some]
            try rewrite [hE.r0]
            try simp only [Option.bind_some]
            try rewrite [fI_ok 6 hN.k]
            try rewrite [Option.bind_some]
            try rewrite [p6_0]
            try simp only [Option.bind_some]
            rewrite [if_pos (show kd (pt (pt X e E) n (gU_X2_addVolume U), J) n = 2 from hN.k)]
            rewrite [s_X2_rootOf hN]
            simp only [Option.bind_some, asI_I]
            try rewrite [wI_ok 5 _ hE.k]
            try rewrite [Option.bind_some]
            try rewrite [up_out (x := e) (a := n) (by have := d_EU; omega)]
            try rewrite [u1_0]
            try rewrite [wZ_ok 6 _ hE.k (by decide)]
            try rewrite [Option.bind_some]
            try rewrite [up_out (x := e) (a := n) (by have := d_EU; omega)]
            try rewrite [u1_0]
            first | exact hR | (simp only [if_pos (show (0 : Int32) = 0 ∨ (0 : Int32) = 1 by decide), if_pos (show (1 : Int32) = 0 ∨ (1 : Int32) = 1 by decide)]; exact hR) | (simp; exact hR)
      · rewrite [if_neg h5]; simp only [if_neg h5] at hR
        try simp only [Option.bind_some]
        rewrite [s_X9_isLetter ]
        simp only [Option.bind_some, asI_I]
        by_cases h8 : (q_X9_isLetter x1) = 0
        · rewrite [if_pos h8]; simp only [if_pos h8] at hR
          try rewrite [fI_ok 3 hE.k]
          try rewrite [Option.bind_some]
          try rewrite [pt_out (x := e) (a := n) (by have := d_EU; omega)]
          try rewrite [p1_0]
          try simp only [Option.bind_some]
          rewrite [if_pos (show kd (pt (pt X e E) n U, J) e = 3 from hE.k)]
          rw [pt_comm X E U d_EU]
          rw [s_X3_fail hE]
          rw [pt_comm X U (gE_X3_fail E 1 (E 0 3)) (Or.symm d_EU)]
          simp only [Option.bind_some, asI_I]
          try rewrite [if_pos (z_X3_fail ..)]
          exact hR
        · rewrite [if_neg h8]; simp only [if_neg h8] at hR
          try rewrite [fR_ok 0 hE.k]
          try rewrite [Option.bind_some]
          try rewrite [hE.r0]
          try simp only [Option.bind_some]
          try rewrite [fI_ok 5 hN.k]
          try rewrite [Option.bind_some]
          try rewrite [p6_0]
          by_cases h9 : (40 : Int32) ≤ (U 0 5)
          · rewrite [if_pos h9]; simp only [if_pos h9] at hR
            try rewrite [fI_ok 3 hE.k]
            try rewrite [Option.bind_some]
            try rewrite [pt_out (x := e) (a := n) (by have := d_EU; omega)]
            try rewrite [p1_0]
            try simp only [Option.bind_some]
            rewrite [if_pos (show kd (pt (pt X e E) n U, J) e = 3 from hE.k)]
            rw [pt_comm X E U d_EU]
            rw [s_X3_fail hE]
            rw [pt_comm X U (gE_X3_fail E 5 (E 0 3)) (Or.symm d_EU)]
            simp only [Option.bind_some, asI_I]
            try rewrite [if_pos (z_X3_fail ..)]
            exact hR
          · rewrite [if_neg h9]; simp only [if_neg h9] at hR
            try rewrite [fR_ok 0 hE.k]
            try rewrite [Option.bind_some]
            try rewrite [hE.r0]
            try simp only [Option.bind_some]
            rewrite [if_pos (show kd (pt (pt X e E) n U, J) n = 2 from hN.k)]
            rewrite [s_X2_addVolume hN]
            simp only [Option.bind_some, asI_I]
            by_cases h10 : (q_X2_addVolume U) = 0
            · rewrite [if_pos h10]; simp only [if_pos h10] at hR
              try rewrite [fI_ok 3 hE.k]
              try rewrite [Option.bind_some]
              try rewrite [pt_out (x := e) (a := n) (by have := d_EU; omega)]
              try rewrite [p1_0]
              try simp only [Option.bind_some]
              rewrite [if_pos (show kd (pt (pt X e E) n (gU_X2_addVolume U), J) e = 3 from hE.k)]
              rw [pt_comm X E (gU_X2_addVolume U) d_EU]
              rw [s_X3_fail hE]
              rw [pt_comm X (gU_X2_addVolume U) (gE_X3_fail E 5 (E 0 3)) (Or.symm d_EU)]
              simp only [Option.bind_some, asI_I]
              try rewrite [if_pos (z_X3_fail ..)]
              exact hR
            · rewrite [if_neg h10]; simp only [if_neg h10] at hR
              try rewrite [fR_ok 0 hE.k]
              try rewrite [Option.bind_some]
              try rewrite [hE.r0]
              try rewrite [fR_ok 0 hE.k]
              try rewrite [Option.bind_some]
              try rewrite [hE.r0]
              try simp only [Option.bind_some]
              try rewrite [fI_ok 6 hN.k]
              try rewrite [Option.bind_some]
              try rewrite [p6_0]
              try simp only [Option.bind_some]
              rewrite [if_pos (show kd (pt (pt X e E) n (gU_X2_addVolume U), J) n = 2 from hN.k)]
              rewrite [s_X2_rootOf hN]
              simp only [Option.bind_some, asI_I]
              try rewrite [wI_ok 5 _ hE.k]
              try rewrite [Option.bind_some]
              try rewrite [up_out (x := e) (a := n) (by have := d_EU; omega)]
              try rewrite [u1_0]
              try rewrite [wZ_ok 6 _ hE.k (by decide)]
              try rewrite [Option.bind_some]
              try rewrite [up_out (x := e) (a := n) (by have := d_EU; omega)]
              try rewrite [u1_0]
              first | exact hR | (simp only [if_pos (show (0 : Int32) = 0 ∨ (0 : Int32) = 1 by decide), if_pos (show (1 : Int32) = 0 ∨ (1 : Int32) = 1 by decide)]; exact hR) | (simp; exact hR)
    · rewrite [if_neg h4]; simp only [if_neg h4] at hR
      try rewrite [fI_ok 3 hE.k]
      try rewrite [Option.bind_some]
      try rewrite [pt_out (x := e) (a := n) (by have := d_EU; omega)]
      try rewrite [p1_0]
      try simp only [Option.bind_some]
      rewrite [if_pos (show kd (pt (pt X e E) n U, J) e = 3 from hE.k)]
      rw [pt_comm X E U d_EU]
      rw [s_X3_fail hE]
      rw [pt_comm X U (gE_X3_fail E 5 (E 0 3)) (Or.symm d_EU)]
      simp only [Option.bind_some, asI_I]
      try rewrite [if_pos (z_X3_fail ..)]
      exact hR
theorem z_X3_readOutside (E : OneV) (U : NodV) (x1 : Int32) : q_X3_readOutside E U x1 = 0 ∨ q_X3_readOutside E U x1 = 1 := by
  unfold q_X3_readOutside
  by_cases k1 : x1 = ((-1))
  · simp only [if_pos k1]
    by_cases k2 : (U 0 6) = 0
    · simp only [if_pos k2]
      by_cases k3 : (q_X3_fail E 1 (E 0 3)) = 0
      · simp only [if_pos k3]
        first | exact Or.inl rfl | simp
      · simp only [if_neg k3]
        first | exact Or.inr rfl | simp
    · simp only [if_neg k2]
      first | exact Or.inl rfl | simp
  · simp only [if_neg k1]
    by_cases k2 : (U 0 6) < 3
    · simp only [if_pos k2]
      by_cases k3 : x1 = 59
      · simp only [if_pos k3]
        by_cases k4 : (40 : Int32) ≤ (U 0 5)
        · simp only [if_pos k4]
          exact z_X3_fail ..
        · simp only [if_neg k4]
          by_cases k5 : (q_X2_addVolume U) = 0
          · simp only [if_pos k5]
            exact z_X3_fail ..
          · simp only [if_neg k5]
            first | exact Or.inr rfl | simp
      · simp only [if_neg k3]
        by_cases k4 : (q_X9_isLetter x1) = 0
        · simp only [if_pos k4]
          exact z_X3_fail ..
        · simp only [if_neg k4]
          by_cases k5 : (40 : Int32) ≤ (U 0 5)
          · simp only [if_pos k5]
            exact z_X3_fail ..
          · simp only [if_neg k5]
            by_cases k6 : (q_X2_addVolume U) = 0
            · simp only [if_pos k6]
              exact z_X3_fail ..
            · simp only [if_neg k6]
              first | exact Or.inr rfl | simp
    · simp only [if_neg k2]
      exact z_X3_fail ..
end
section
/-! By hand: an item read. -/
def e_X3_readItem (E : OneV) (Q : RouV) (U : NodV) (x2 : Int32) : Int32 × OneV × NodV := if (q_X9_isLetter (q_X5_at Q (E 0 3))) = 0 then (if (q_X2_find U (E 0 5) (q_X9_nameBetween Q x2 (E 0 3))) = ((-1)) then (if (q_X5_at Q ((gE_X3_skipBlanks E Q) 0 3)) = 123 then (if (q_X3_openFolder (gE_X3_skipBlanks E Q) (gU_X2_addIn U (E 0 5) (q_X9_nameBetween Q x2 (E 0 3)) 1) (q_X2_addIn U (E 0 5) (q_X9_nameBetween Q x2 (E 0 3)) 1)) = 0 then 0 else 1, gE_X3_openFolder (gE_X3_skipBlanks E Q) (gU_X2_addIn U (E 0 5) (q_X9_nameBetween Q x2 (E 0 3)) 1) (q_X2_addIn U (E 0 5) (q_X9_nameBetween Q x2 (E 0 3)) 1), gU_X3_openFolder (gE_X3_skipBlanks E Q) (gU_X2_addIn U (E 0 5) (q_X9_nameBetween Q x2 (E 0 3)) 1) (q_X2_addIn U (E 0 5) (q_X9_nameBetween Q x2 (E 0 3)) 1)) else (1, gE_X3_skipBlanks E Q, gU_X2_addIn U (E 0 5) (q_X9_nameBetween Q x2 (E 0 3)) 1)) else (q_X3_fail E 3 x2, gE_X3_fail E 3 x2, U)) else (q_X3_fail E 1 (E 0 3), gE_X3_fail E 1 (E 0 3), U)
def lp_X3_readItem (Q : RouV) (U : NodV) (x2 : Int32) : Nat → OneV → Int32 × OneV × NodV
  | 0, E => e_X3_readItem E Q U x2
  | f + 1, E => if (q_X9_isLetter (q_X5_at Q (E 0 3))) = 0 then e_X3_readItem E Q U x2 else lp_X3_readItem Q U x2 f (uv E 0 3 ((E 0 3) + 1))
def o_X3_readItem (E : OneV) (Q : RouV) (U : NodV) : Int32 × OneV × NodV := if (U 0 5) < 40 then lp_X3_readItem Q U (E 0 3) 4 E else (q_X3_fail E 5 (E 0 3), gE_X3_fail E 5 (E 0 3), U)
def q_X3_readItem (E : OneV) (Q : RouV) (U : NodV) : Int32 := (o_X3_readItem E Q U).1
def gE_X3_readItem (E : OneV) (Q : RouV) (U : NodV) : OneV := (o_X3_readItem E Q U).2.1
def gU_X3_readItem (E : OneV) (Q : RouV) (U : NodV) : NodV := (o_X3_readItem E Q U).2.2
theorem lr_X3_readItem {J : MJ} {e n t : Nat} (hE : RdrL J e n) (hT : TapL J t) (hN : NodL J n) (d_EQ : e + 1 ≤ t ∨ t + 2 ≤ e) (d_EU : e + 1 ≤ n ∨ n + 6 ≤ e) (d_QU : t + 2 ≤ n ∨ n + 6 ≤ t) (X : MI) (Q : RouV) (U : NodV) (x2 : Int32) : ∀ (f k : Nat) (E : OneV), k + f = 4 → E 0 3 - x2 = nI k → Ev T_X3_readItem 24 [some (mR (some e)), some (mR (some t)), some (mI x2), none, none] [] (pt (pt (pt X e E) t Q) n U, J) = some (some (mI (lp_X3_readItem Q U x2 f E).1), (pt (pt (pt X e (lp_X3_readItem Q U x2 f E).2.1) t Q) n (lp_X3_readItem Q U x2 f E).2.2, J)) := by
  have fin : ∀ (E : OneV) (R : Option MO), ((if (q_X9_isLetter (q_X5_at Q (E 0 3))) = 0 then (if (q_X2_find U (E 0 5) (q_X9_nameBetween Q x2 (E 0 3))) = ((-1)) then (if (q_X5_at Q ((gE_X3_skipBlanks E Q) 0 3)) = 123 then (if (q_X3_openFolder (gE_X3_skipBlanks E Q) (gU_X2_addIn U (E 0 5) (q_X9_nameBetween Q x2 (E 0 3)) 1) (q_X2_addIn U (E 0 5) (q_X9_nameBetween Q x2 (E 0 3)) 1)) = 0 then some (some (mI 0), (pt (pt (pt X e (gE_X3_openFolder (gE_X3_skipBlanks E Q) (gU_X2_addIn U (E 0 5) (q_X9_nameBetween Q x2 (E 0 3)) 1) (q_X2_addIn U (E 0 5) (q_X9_nameBetween Q x2 (E 0 3)) 1))) t Q) n (gU_X3_openFolder (gE_X3_skipBlanks E Q) (gU_X2_addIn U (E 0 5) (q_X9_nameBetween Q x2 (E 0 3)) 1) (q_X2_addIn U (E 0 5) (q_X9_nameBetween Q x2 (E 0 3)) 1)), J)) else some (some (mI 1), (pt (pt (pt X e (gE_X3_openFolder (gE_X3_skipBlanks E Q) (gU_X2_addIn U (E 0 5) (q_X9_nameBetween Q x2 (E 0 3)) 1) (q_X2_addIn U (E 0 5) (q_X9_nameBetween Q x2 (E 0 3)) 1))) t Q) n (gU_X3_openFolder (gE_X3_skipBlanks E Q) (gU_X2_addIn U (E 0 5) (q_X9_nameBetween Q x2 (E 0 3)) 1) (q_X2_addIn U (E 0 5) (q_X9_nameBetween Q x2 (E 0 3)) 1)), J))) else some (some (mI 1), (pt (pt (pt X e (gE_X3_skipBlanks E Q)) t Q) n (gU_X2_addIn U (E 0 5) (q_X9_nameBetween Q x2 (E 0 3)) 1), J))) else some (some (mI (q_X3_fail E 3 x2)), (pt (pt (pt X e (gE_X3_fail E 3 x2)) t Q) n U, J))) else R)) = if (q_X9_isLetter (q_X5_at Q (E 0 3))) = 0 then some (some (mI (e_X3_readItem E Q U x2).1), (pt (pt (pt X e (e_X3_readItem E Q U x2).2.1) t Q) n (e_X3_readItem E Q U x2).2.2, J)) else R := by
    intro E R
    by_cases a : (q_X9_isLetter (q_X5_at Q (E 0 3))) = 0
    · rw [if_pos a, if_pos a]
      unfold e_X3_readItem
      rw [if_pos a]
      by_cases b : (q_X2_find U (E 0 5) (q_X9_nameBetween Q x2 (E 0 3))) = ((-1))
      · rw [if_pos b, if_pos b]
        by_cases c : (q_X5_at Q ((gE_X3_skipBlanks E Q) 0 3)) = 123
        · rw [if_pos c, if_pos c]
          by_cases d : (q_X3_openFolder (gE_X3_skipBlanks E Q) (gU_X2_addIn U (E 0 5) (q_X9_nameBetween Q x2 (E 0 3)) 1) (q_X2_addIn U (E 0 5) (q_X9_nameBetween Q x2 (E 0 3)) 1)) = 0
          · simp only [if_pos d]
          · simp only [if_neg d]
        · rw [if_neg c, if_neg c]
      · rw [if_neg b, if_neg b]
    · rw [if_neg a, if_neg a]
  intro f
  induction f with
  | zero =>
    intro k E hk hd
    have hk : k = 4 := by omega
    subst hk
    rw [P_X3_readItem_24 hE hT hN d_EQ d_EU d_QU, if_pos (by rw [hd]; exact Int32.le_refl _), fin]
    by_cases a : (q_X9_isLetter (q_X5_at Q (E 0 3))) = 0
    · rw [if_pos a]
      rfl
    · rw [if_neg a]
      unfold lp_X3_readItem e_X3_readItem
      rw [if_neg a]
  | succ f ih =>
    intro k E hk hd
    rw [P_X3_readItem_24 hE hT hN d_EQ d_EU d_QU, if_neg (by rw [hd]; exact nI_ge (show k < 4 by omega) (by decide)), fin]
    unfold lp_X3_readItem
    by_cases a : (q_X9_isLetter (q_X5_at Q (E 0 3))) = 0
    · rw [if_pos a, if_pos a]
    · rw [if_neg a, if_neg a]
      apply ih (k + 1) _ (by omega)
      rw [uv_s, ← nI_1, ← hd, Int32.sub_eq_add_neg, Int32.sub_eq_add_neg, Int32.add_assoc, Int32.add_comm 1, ← Int32.add_assoc]
theorem s_X3_readItem {J : MJ} {e n t : Nat} (hE : RdrL J e n) (hT : TapL J t) (hN : NodL J n) (d_EQ : e + 1 ≤ t ∨ t + 2 ≤ e) (d_EU : e + 1 ≤ n ∨ n + 6 ≤ e) (d_QU : t + 2 ≤ n ∨ n + 6 ≤ t) (X : MI) (E : OneV) (Q : RouV) (U : NodV) : M_X3_readItem [mR (some e), mR (some t)] (pt (pt (pt X e E) t Q) n U, J) = some (some (mI (q_X3_readItem E Q U)), (pt (pt (pt X e (gE_X3_readItem E Q U)) t Q) n (gU_X3_readItem E Q U), J)) := by
  rw [P_X3_readItem hE hT hN d_EQ d_EU d_QU]
  unfold q_X3_readItem gE_X3_readItem gU_X3_readItem o_X3_readItem
  by_cases a : (U 0 5) < 40
  · simp only [if_pos a]
    exact lr_X3_readItem hE hT hN d_EQ d_EU d_QU X Q U (E 0 3) 4 0 E rfl (Int32.sub_self _)
  · simp only [if_neg a]
theorem z_X3_readItem (E : OneV) (Q : RouV) (U : NodV) : q_X3_readItem E Q U = 0 ∨ q_X3_readItem E Q U = 1 := by
  have fin : ∀ (E : OneV) (x2 : Int32), (e_X3_readItem E Q U x2).1 = 0 ∨ (e_X3_readItem E Q U x2).1 = 1 := by
    intro E x2
    unfold e_X3_readItem
    split
    · split
      · split
        · dsimp only
          split
          · exact Or.inl rfl
          · exact Or.inr rfl
        · exact Or.inr rfl
      · exact z_X3_fail E 3 x2
    · exact z_X3_fail E 1 (E 0 3)
  have lp : ∀ (f : Nat) (E : OneV) (x2 : Int32), (lp_X3_readItem Q U x2 f E).1 = 0 ∨ (lp_X3_readItem Q U x2 f E).1 = 1 := by
    intro f
    induction f with
    | zero => intro E x2; exact fin E x2
    | succ f ih =>
      intro E x2
      unfold lp_X3_readItem
      split
      · exact fin E x2
      · exact ih _ _
  unfold q_X3_readItem o_X3_readItem
  split
  · exact lp _ _ _
  · exact z_X3_fail E 5 (E 0 3)
end
section
/-! The reader. Written by gen/run5.py. -/
def q_X3_readInside (E : OneV) (Q : RouV) (U : NodV) (x2 : Int32) : Int32 := (if x2 = 59 then (if (E 0 4) = 0 then 1 else (if x2 = 125 then (if (E 0 4) ≤ 0 then (if (q_X9_isLetter x2) = 0 then q_X3_fail E 1 (E 0 3) else q_X3_readItem E Q U) else 1) else (if (q_X9_isLetter x2) = 0 then q_X3_fail E 1 (E 0 3) else q_X3_readItem E Q U))) else (if x2 = 125 then (if (E 0 4) ≤ 0 then (if (q_X9_isLetter x2) = 0 then q_X3_fail E 1 (E 0 3) else q_X3_readItem E Q U) else 1) else (if (q_X9_isLetter x2) = 0 then q_X3_fail E 1 (E 0 3) else q_X3_readItem E Q U)))
def gE_X3_readInside (E : OneV) (Q : RouV) (U : NodV) (x2 : Int32) : OneV := (if x2 = 59 then (if (E 0 4) = 0 then uv (uv E 0 6 0) 0 3 ((E 0 3) + 1) else (if x2 = 125 then (if (E 0 4) ≤ 0 then (if (q_X9_isLetter x2) = 0 then gE_X3_fail E 1 (E 0 3) else gE_X3_readItem E Q U) else uv (uv (uv E 0 5 (q_X2_parentOf U (E 0 5))) 0 4 ((E 0 4) - 1)) 0 3 ((E 0 3) + 1)) else (if (q_X9_isLetter x2) = 0 then gE_X3_fail E 1 (E 0 3) else gE_X3_readItem E Q U))) else (if x2 = 125 then (if (E 0 4) ≤ 0 then (if (q_X9_isLetter x2) = 0 then gE_X3_fail E 1 (E 0 3) else gE_X3_readItem E Q U) else uv (uv (uv E 0 5 (q_X2_parentOf U (E 0 5))) 0 4 ((E 0 4) - 1)) 0 3 ((E 0 3) + 1)) else (if (q_X9_isLetter x2) = 0 then gE_X3_fail E 1 (E 0 3) else gE_X3_readItem E Q U)))
def gU_X3_readInside (E : OneV) (Q : RouV) (U : NodV) (x2 : Int32) : NodV := (if x2 = 59 then (if (E 0 4) = 0 then U else (if x2 = 125 then (if (E 0 4) ≤ 0 then (if (q_X9_isLetter x2) = 0 then U else gU_X3_readItem E Q U) else U) else (if (q_X9_isLetter x2) = 0 then U else gU_X3_readItem E Q U))) else (if x2 = 125 then (if (E 0 4) ≤ 0 then (if (q_X9_isLetter x2) = 0 then U else gU_X3_readItem E Q U) else U) else (if (q_X9_isLetter x2) = 0 then U else gU_X3_readItem E Q U)))
theorem s_X3_readInside {J : MJ} {e n t : Nat} (hE : RdrL J e n) (hT : TapL J t) (hN : NodL J n) (d_EQ : e + 1 ≤ t ∨ t + 2 ≤ e) (d_EU : e + 1 ≤ n ∨ n + 6 ≤ e) (d_QU : t + 2 ≤ n ∨ n + 6 ≤ t) (X : MI) (E : OneV) (Q : RouV) (U : NodV) (x2 : Int32) : M_X3_readInside [mR (some e), mR (some t), mI x2] (pt (pt (pt X e E) t Q) n U, J) = some (some (mI (q_X3_readInside E Q U x2)), (pt (pt (pt X e (gE_X3_readInside E Q U x2)) t Q) n (gU_X3_readInside E Q U x2), J)) := by
  generalize hR : some (some (mI (q_X3_readInside E Q U x2)), (pt (pt (pt X e (gE_X3_readInside E Q U x2)) t Q) n (gU_X3_readInside E Q U x2), J)) = R
  rw [E_X3_readInside]
  unfold q_X3_readInside gE_X3_readInside gU_X3_readInside at hR
  by_cases h1 : x2 = 59
  · rewrite [if_pos h1]; simp only [if_pos h1] at hR
    try rewrite [fI_ok 4 hE.k]
    try rewrite [Option.bind_some]
    try rewrite [pt_out (x := e) (a := n) (by have := d_EU; omega)]
    try rewrite [pt_out (x := e) (a := t) (by have := d_EQ; omega)]
    try rewrite [p1_0]
    by_cases h2 : (E 0 4) = 0
    · rewrite [if_pos h2]; simp only [if_pos h2] at hR
      try rewrite [wZ_ok 6 _ hE.k (by decide)]
      try rewrite [Option.bind_some]
      try rewrite [up_out (x := e) (a := n) (by have := d_EU; omega)]
      try rewrite [up_out (x := e) (a := t) (by have := d_EQ; omega)]
      try rewrite [u1_0]
      try rewrite [fI_ok 3 hE.k]
      try rewrite [Option.bind_some]
      try rewrite [pt_out (x := e) (a := n) (by have := d_EU; omega)]
      try rewrite [pt_out (x := e) (a := t) (by have := d_EQ; omega)]
      try rewrite [p1_0]
      try rewrite [uv_n _ _ _ _ _ _ (by decide)]
      try rewrite [wI_ok 3 _ hE.k]
      try rewrite [Option.bind_some]
      try rewrite [up_out (x := e) (a := n) (by have := d_EU; omega)]
      try rewrite [up_out (x := e) (a := t) (by have := d_EQ; omega)]
      try rewrite [u1_0]
      first | exact hR | (simp only [if_pos (show (0 : Int32) = 0 ∨ (0 : Int32) = 1 by decide), if_pos (show (1 : Int32) = 0 ∨ (1 : Int32) = 1 by decide)]; exact hR) | (simp; exact hR)
    · rewrite [if_neg h2]; simp only [if_neg h2] at hR
      by_cases h3 : x2 = 125
      · rewrite [if_pos h3]; simp only [if_pos h3] at hR
        try rewrite [fI_ok 4 hE.k]
        try rewrite [Option.bind_some]
        try rewrite [pt_out (x := e) (a := n) (by have := d_EU; omega)]
        try rewrite [pt_out (x := e) (a := t) (by have := d_EQ; omega)]
        try rewrite [p1_0]
        by_cases h4 : (E 0 4) ≤ 0
        · rewrite [if_pos h4]; simp only [if_pos h4] at hR
          try simp only [Option.bind_some]
          rewrite [s_X9_isLetter ]
          simp only [Option.bind_some, asI_I]
          by_cases h5 : (q_X9_isLetter x2) = 0
          · rewrite [if_pos h5]; simp only [if_pos h5] at hR
            try rewrite [fI_ok 3 hE.k]
            try rewrite [Option.bind_some]
            try rewrite [pt_out (x := e) (a := n) (by have := d_EU; omega)]
            try rewrite [pt_out (x := e) (a := t) (by have := d_EQ; omega)]
            try rewrite [p1_0]
            try simp only [Option.bind_some]
            rewrite [if_pos (show kd (pt (pt (pt X e E) t Q) n U, J) e = 3 from hE.k)]
            rw [pt_comm X E Q d_EQ, pt_comm (pt X t Q) E U d_EU]
            rw [s_X3_fail hE]
            rw [pt_comm (pt X t Q) U (gE_X3_fail E 1 (E 0 3)) (Or.symm d_EU), pt_comm X Q (gE_X3_fail E 1 (E 0 3)) (Or.symm d_EQ)]
            simp only [Option.bind_some, asI_I]
            try rewrite [if_pos (z_X3_fail ..)]
            exact hR
          · rewrite [if_neg h5]; simp only [if_neg h5] at hR
            try simp only [Option.bind_some]
            rewrite [if_pos (show kd (pt (pt (pt X e E) t Q) n U, J) e = 3 from hE.k)]
            rewrite [s_X3_readItem hE hT hN d_EQ d_EU d_QU]
            simp only [Option.bind_some, asI_I]
            try rewrite [if_pos (z_X3_readItem ..)]
            exact hR
        · rewrite [if_neg h4]; simp only [if_neg h4] at hR
          try rewrite [fR_ok 0 hE.k]
          try rewrite [Option.bind_some]
          try rewrite [hE.r0]
          try rewrite [fI_ok 5 hE.k]
          try rewrite [Option.bind_some]
          try rewrite [pt_out (x := e) (a := n) (by have := d_EU; omega)]
          try rewrite [pt_out (x := e) (a := t) (by have := d_EQ; omega)]
          try rewrite [p1_0]
          try simp only [Option.bind_some]
          rewrite [if_pos (show kd (pt (pt (pt X e E) t Q) n U, J) n = 2 from hN.k)]
          rewrite [s_X2_parentOf hN]
          simp only [Option.bind_some, asI_I]
          try rewrite [wI_ok 5 _ hE.k]
          try rewrite [Option.bind_some]
          try rewrite [up_out (x := e) (a := n) (by have := d_EU; omega)]
          try rewrite [up_out (x := e) (a := t) (by have := d_EQ; omega)]
          try rewrite [u1_0]
          try rewrite [fI_ok 4 hE.k]
          try rewrite [Option.bind_some]
          try rewrite [pt_out (x := e) (a := n) (by have := d_EU; omega)]
          try rewrite [pt_out (x := e) (a := t) (by have := d_EQ; omega)]
          try rewrite [p1_0]
          try rewrite [uv_n _ _ _ _ _ _ (by decide)]
          try rewrite [wI_ok 4 _ hE.k]
          try rewrite [Option.bind_some]
          try rewrite [up_out (x := e) (a := n) (by have := d_EU; omega)]
          try rewrite [up_out (x := e) (a := t) (by have := d_EQ; omega)]
          try rewrite [u1_0]
          try rewrite [fI_ok 3 hE.k]
          try rewrite [Option.bind_some]
          try rewrite [pt_out (x := e) (a := n) (by have := d_EU; omega)]
          try rewrite [pt_out (x := e) (a := t) (by have := d_EQ; omega)]
          try rewrite [p1_0]
          try rewrite [uv_n _ _ _ _ _ _ (by decide)]
          try rewrite [uv_n _ _ _ _ _ _ (by decide)]
          try rewrite [wI_ok 3 _ hE.k]
          try rewrite [Option.bind_some]
          try rewrite [up_out (x := e) (a := n) (by have := d_EU; omega)]
          try rewrite [up_out (x := e) (a := t) (by have := d_EQ; omega)]
          try rewrite [u1_0]
          first | exact hR | (simp only [if_pos (show (0 : Int32) = 0 ∨ (0 : Int32) = 1 by decide), if_pos (show (1 : Int32) = 0 ∨ (1 : Int32) = 1 by decide)]; exact hR) | (simp; exact hR)
      · rewrite [if_neg h3]; simp only [if_neg h3] at hR
        try simp only [Option.bind_some]
        rewrite [s_X9_isLetter ]
        simp only [Option.bind_some, asI_I]
        by_cases h6 : (q_X9_isLetter x2) = 0
        · rewrite [if_pos h6]; simp only [if_pos h6] at hR
          try rewrite [fI_ok 3 hE.k]
          try rewrite [Option.bind_some]
          try rewrite [pt_out (x := e) (a := n) (by have := d_EU; omega)]
          try rewrite [pt_out (x := e) (a := t) (by have := d_EQ; omega)]
          try rewrite [p1_0]
          try simp only [Option.bind_some]
          rewrite [if_pos (show kd (pt (pt (pt X e E) t Q) n U, J) e = 3 from hE.k)]
          rw [pt_comm X E Q d_EQ, pt_comm (pt X t Q) E U d_EU]
          rw [s_X3_fail hE]
          rw [pt_comm (pt X t Q) U (gE_X3_fail E 1 (E 0 3)) (Or.symm d_EU), pt_comm X Q (gE_X3_fail E 1 (E 0 3)) (Or.symm d_EQ)]
          simp only [Option.bind_some, asI_I]
          try rewrite [if_pos (z_X3_fail ..)]
          exact hR
        · rewrite [if_neg h6]; simp only [if_neg h6] at hR
          try simp only [Option.bind_some]
          rewrite [if_pos (show kd (pt (pt (pt X e E) t Q) n U, J) e = 3 from hE.k)]
          rewrite [s_X3_readItem hE hT hN d_EQ d_EU d_QU]
          simp only [Option.bind_some, asI_I]
          try rewrite [if_pos (z_X3_readItem ..)]
          exact hR
  · rewrite [if_neg h1]; simp only [if_neg h1] at hR
    by_cases h7 : x2 = 125
    · rewrite [if_pos h7]; simp only [if_pos h7] at hR
      try rewrite [fI_ok 4 hE.k]
      try rewrite [Option.bind_some]
      try rewrite [pt_out (x := e) (a := n) (by have := d_EU; omega)]
      try rewrite [pt_out (x := e) (a := t) (by have := d_EQ; omega)]
      try rewrite [p1_0]
      by_cases h8 : (E 0 4) ≤ 0
      · rewrite [if_pos h8]; simp only [if_pos h8] at hR
        try simp only [Option.bind_some]
        rewrite [s_X9_isLetter ]
        simp only [Option.bind_some, asI_I]
        by_cases h9 : (q_X9_isLetter x2) = 0
        · rewrite [if_pos h9]; simp only [if_pos h9] at hR
          try rewrite [fI_ok 3 hE.k]
          try rewrite [Option.bind_some]
          try rewrite [pt_out (x := e) (a := n) (by have := d_EU; omega)]
          try rewrite [pt_out (x := e) (a := t) (by have := d_EQ; omega)]
          try rewrite [p1_0]
          try simp only [Option.bind_some]
          rewrite [if_pos (show kd (pt (pt (pt X e E) t Q) n U, J) e = 3 from hE.k)]
          rw [pt_comm X E Q d_EQ, pt_comm (pt X t Q) E U d_EU]
          rw [s_X3_fail hE]
          rw [pt_comm (pt X t Q) U (gE_X3_fail E 1 (E 0 3)) (Or.symm d_EU), pt_comm X Q (gE_X3_fail E 1 (E 0 3)) (Or.symm d_EQ)]
          simp only [Option.bind_some, asI_I]
          try rewrite [if_pos (z_X3_fail ..)]
          exact hR
        · rewrite [if_neg h9]; simp only [if_neg h9] at hR
          try simp only [Option.bind_some]
          rewrite [if_pos (show kd (pt (pt (pt X e E) t Q) n U, J) e = 3 from hE.k)]
          rewrite [s_X3_readItem hE hT hN d_EQ d_EU d_QU]
          simp only [Option.bind_some, asI_I]
          try rewrite [if_pos (z_X3_readItem ..)]
          exact hR
      · rewrite [if_neg h8]; simp only [if_neg h8] at hR
        try rewrite [fR_ok 0 hE.k]
        try rewrite [Option.bind_some]
        try rewrite [hE.r0]
        try rewrite [fI_ok 5 hE.k]
        try rewrite [Option.bind_some]
        try rewrite [pt_out (x := e) (a := n) (by have := d_EU; omega)]
        try rewrite [pt_out (x := e) (a := t) (by have := d_EQ; omega)]
        try rewrite [p1_0]
        try simp only [Option.bind_some]
        rewrite [if_pos (show kd (pt (pt (pt X e E) t Q) n U, J) n = 2 from hN.k)]
        rewrite [s_X2_parentOf hN]
        simp only [Option.bind_some, asI_I]
        try rewrite [wI_ok 5 _ hE.k]
        try rewrite [Option.bind_some]
        try rewrite [up_out (x := e) (a := n) (by have := d_EU; omega)]
        try rewrite [up_out (x := e) (a := t) (by have := d_EQ; omega)]
        try rewrite [u1_0]
        try rewrite [fI_ok 4 hE.k]
        try rewrite [Option.bind_some]
        try rewrite [pt_out (x := e) (a := n) (by have := d_EU; omega)]
        try rewrite [pt_out (x := e) (a := t) (by have := d_EQ; omega)]
        try rewrite [p1_0]
        try rewrite [uv_n _ _ _ _ _ _ (by decide)]
        try rewrite [wI_ok 4 _ hE.k]
        try rewrite [Option.bind_some]
        try rewrite [up_out (x := e) (a := n) (by have := d_EU; omega)]
        try rewrite [up_out (x := e) (a := t) (by have := d_EQ; omega)]
        try rewrite [u1_0]
        try rewrite [fI_ok 3 hE.k]
        try rewrite [Option.bind_some]
        try rewrite [pt_out (x := e) (a := n) (by have := d_EU; omega)]
        try rewrite [pt_out (x := e) (a := t) (by have := d_EQ; omega)]
        try rewrite [p1_0]
        try rewrite [uv_n _ _ _ _ _ _ (by decide)]
        try rewrite [uv_n _ _ _ _ _ _ (by decide)]
        try rewrite [wI_ok 3 _ hE.k]
        try rewrite [Option.bind_some]
        try rewrite [up_out (x := e) (a := n) (by have := d_EU; omega)]
        try rewrite [up_out (x := e) (a := t) (by have := d_EQ; omega)]
        try rewrite [u1_0]
        first | exact hR | (simp only [if_pos (show (0 : Int32) = 0 ∨ (0 : Int32) = 1 by decide), if_pos (show (1 : Int32) = 0 ∨ (1 : Int32) = 1 by decide)]; exact hR) | (simp; exact hR)
    · rewrite [if_neg h7]; simp only [if_neg h7] at hR
      try simp only [Option.bind_some]
      rewrite [s_X9_isLetter ]
      simp only [Option.bind_some, asI_I]
      by_cases h10 : (q_X9_isLetter x2) = 0
      · rewrite [if_pos h10]; simp only [if_pos h10] at hR
        try rewrite [fI_ok 3 hE.k]
        try rewrite [Option.bind_some]
        try rewrite [pt_out (x := e) (a := n) (by have := d_EU; omega)]
        try rewrite [pt_out (x := e) (a := t) (by have := d_EQ; omega)]
        try rewrite [p1_0]
        try simp only [Option.bind_some]
        rewrite [if_pos (show kd (pt (pt (pt X e E) t Q) n U, J) e = 3 from hE.k)]
        rw [pt_comm X E Q d_EQ, pt_comm (pt X t Q) E U d_EU]
        rw [s_X3_fail hE]
        rw [pt_comm (pt X t Q) U (gE_X3_fail E 1 (E 0 3)) (Or.symm d_EU), pt_comm X Q (gE_X3_fail E 1 (E 0 3)) (Or.symm d_EQ)]
        simp only [Option.bind_some, asI_I]
        try rewrite [if_pos (z_X3_fail ..)]
        exact hR
      · rewrite [if_neg h10]; simp only [if_neg h10] at hR
        try simp only [Option.bind_some]
        rewrite [if_pos (show kd (pt (pt (pt X e E) t Q) n U, J) e = 3 from hE.k)]
        rewrite [s_X3_readItem hE hT hN d_EQ d_EU d_QU]
        simp only [Option.bind_some, asI_I]
        try rewrite [if_pos (z_X3_readItem ..)]
        exact hR
theorem z_X3_readInside (E : OneV) (Q : RouV) (U : NodV) (x2 : Int32) : q_X3_readInside E Q U x2 = 0 ∨ q_X3_readInside E Q U x2 = 1 := by
  unfold q_X3_readInside
  by_cases k1 : x2 = 59
  · simp only [if_pos k1]
    by_cases k2 : (E 0 4) = 0
    · simp only [if_pos k2]
      first | exact Or.inr rfl | simp
    · simp only [if_neg k2]
      by_cases k3 : x2 = 125
      · simp only [if_pos k3]
        by_cases k4 : (E 0 4) ≤ 0
        · simp only [if_pos k4]
          by_cases k5 : (q_X9_isLetter x2) = 0
          · simp only [if_pos k5]
            exact z_X3_fail ..
          · simp only [if_neg k5]
            exact z_X3_readItem ..
        · simp only [if_neg k4]
          first | exact Or.inr rfl | simp
      · simp only [if_neg k3]
        by_cases k4 : (q_X9_isLetter x2) = 0
        · simp only [if_pos k4]
          exact z_X3_fail ..
        · simp only [if_neg k4]
          exact z_X3_readItem ..
  · simp only [if_neg k1]
    by_cases k2 : x2 = 125
    · simp only [if_pos k2]
      by_cases k3 : (E 0 4) ≤ 0
      · simp only [if_pos k3]
        by_cases k4 : (q_X9_isLetter x2) = 0
        · simp only [if_pos k4]
          exact z_X3_fail ..
        · simp only [if_neg k4]
          exact z_X3_readItem ..
      · simp only [if_neg k3]
        first | exact Or.inr rfl | simp
    · simp only [if_neg k2]
      by_cases k3 : (q_X9_isLetter x2) = 0
      · simp only [if_pos k3]
        exact z_X3_fail ..
      · simp only [if_neg k3]
        exact z_X3_readItem ..
theorem P_X3_readTrees {J : MJ} {e n t : Nat} (hE : RdrL J e n) (hT : TapL J t) (hN : NodL J n) (d_EQ : e + 1 ≤ t ∨ t + 2 ≤ e) (d_EU : e + 1 ≤ n ∨ n + 6 ≤ e) (d_QU : t + 2 ≤ n ∨ n + 6 ≤ t) (X : MI) (E : OneV) (Q : RouV) (U : NodV) : M_X3_readTrees [mR (some e), mR (some t)] (pt (pt (pt X e E) t Q) n U, J) = Ev T_X3_readTrees 41 [some (mR (some e)), some (mR (some t)), some (mI 1), some (mI 0), none] [] (pt (pt (pt X e (uv (uv (uv (uv (uv (uv E 0 1 0) 0 2 ((-1))) 0 3 0) 0 4 0) 0 5 ((-1))) 0 6 0)) t Q) n (gU_X2_clear U), J) := by
  generalize hR : Ev T_X3_readTrees 41 [some (mR (some e)), some (mR (some t)), some (mI 1), some (mI 0), none] [] (pt (pt (pt X e (uv (uv (uv (uv (uv (uv E 0 1 0) 0 2 ((-1))) 0 3 0) 0 4 0) 0 5 ((-1))) 0 6 0)) t Q) n (gU_X2_clear U), J) = R
  rw [E_X3_readTrees]
  try rewrite [fR_ok 0 hE.k]
  try rewrite [Option.bind_some]
  try rewrite [hE.r0]
  try simp only [Option.bind_some]
  rewrite [if_pos (show kd (pt (pt (pt X e E) t Q) n U, J) n = 2 from hN.k)]
  rewrite [s_X2_clear hN]
  simp only [Option.bind_some, asV_n]
  try rewrite [wI_ok 1 _ hE.k]
  try rewrite [Option.bind_some]
  try rewrite [up_out (x := e) (a := n) (by have := d_EU; omega)]
  try rewrite [up_out (x := e) (a := t) (by have := d_EQ; omega)]
  try rewrite [u1_0]
  try rewrite [wI_ok 2 _ hE.k]
  try rewrite [Option.bind_some]
  try rewrite [up_out (x := e) (a := n) (by have := d_EU; omega)]
  try rewrite [up_out (x := e) (a := t) (by have := d_EQ; omega)]
  try rewrite [u1_0]
  try rewrite [wI_ok 3 _ hE.k]
  try rewrite [Option.bind_some]
  try rewrite [up_out (x := e) (a := n) (by have := d_EU; omega)]
  try rewrite [up_out (x := e) (a := t) (by have := d_EQ; omega)]
  try rewrite [u1_0]
  try rewrite [wI_ok 4 _ hE.k]
  try rewrite [Option.bind_some]
  try rewrite [up_out (x := e) (a := n) (by have := d_EU; omega)]
  try rewrite [up_out (x := e) (a := t) (by have := d_EQ; omega)]
  try rewrite [u1_0]
  try rewrite [wI_ok 5 _ hE.k]
  try rewrite [Option.bind_some]
  try rewrite [up_out (x := e) (a := n) (by have := d_EU; omega)]
  try rewrite [up_out (x := e) (a := t) (by have := d_EQ; omega)]
  try rewrite [u1_0]
  try rewrite [wZ_ok 6 _ hE.k (by decide)]
  try rewrite [Option.bind_some]
  try rewrite [up_out (x := e) (a := n) (by have := d_EU; omega)]
  try rewrite [up_out (x := e) (a := t) (by have := d_EQ; omega)]
  try rewrite [u1_0]
  exact hR
theorem P_X3_readTrees_41 {J : MJ} {e n t : Nat} (hE : RdrL J e n) (hT : TapL J t) (hN : NodL J n) (d_EQ : e + 1 ≤ t ∨ t + 2 ≤ e) (d_EU : e + 1 ≤ n ∨ n + 6 ≤ e) (d_QU : t + 2 ≤ n ∨ n + 6 ≤ t) (X : MI) (E : OneV) (Q : RouV) (U : NodV) (x2 : Int32) (x3 : Int32) : Ev T_X3_readTrees 41 [some (mR (some e)), some (mR (some t)), some (mI x2), some (mI x3), none] [] (pt (pt (pt X e E) t Q) n U, J) = (if x2 = 0 then (if (E 0 1) = 0 then some (some (mI 1), (pt (pt (pt X e E) t Q) n U, J)) else some (some (mI 0), (pt (pt (pt X e E) t Q) n U, J))) else (if (800 : Int32) < x3 then (if (E 0 1) = 0 then some (some (mI 1), (pt (pt (pt X e E) t Q) n U, J)) else some (some (mI 0), (pt (pt (pt X e E) t Q) n U, J))) else (if (bz ((gE_X3_skipBlanks E Q) 0 6)) = 0 then Ev T_X3_readTrees 41 [some (mR (some e)), some (mR (some t)), some (mI (q_X3_readOutside (gE_X3_skipBlanks E Q) U (q_X5_at Q ((gE_X3_skipBlanks E Q) 0 3)))), some (mI (x3 + 1)), none] [] (pt (pt (pt X e (gE_X3_readOutside (gE_X3_skipBlanks E Q) U (q_X5_at Q ((gE_X3_skipBlanks E Q) 0 3)))) t Q) n (gU_X3_readOutside (gE_X3_skipBlanks E Q) U (q_X5_at Q ((gE_X3_skipBlanks E Q) 0 3))), J) else Ev T_X3_readTrees 41 [some (mR (some e)), some (mR (some t)), some (mI (q_X3_readInside (gE_X3_skipBlanks E Q) Q U (q_X5_at Q ((gE_X3_skipBlanks E Q) 0 3)))), some (mI (x3 + 1)), none] [] (pt (pt (pt X e (gE_X3_readInside (gE_X3_skipBlanks E Q) Q U (q_X5_at Q ((gE_X3_skipBlanks E Q) 0 3)))) t Q) n (gU_X3_readInside (gE_X3_skipBlanks E Q) Q U (q_X5_at Q ((gE_X3_skipBlanks E Q) 0 3))), J)))) := by
  generalize hR : (if x2 = 0 then (if (E 0 1) = 0 then some (some (mI 1), (pt (pt (pt X e E) t Q) n U, J)) else some (some (mI 0), (pt (pt (pt X e E) t Q) n U, J))) else (if (800 : Int32) < x3 then (if (E 0 1) = 0 then some (some (mI 1), (pt (pt (pt X e E) t Q) n U, J)) else some (some (mI 0), (pt (pt (pt X e E) t Q) n U, J))) else (if (bz ((gE_X3_skipBlanks E Q) 0 6)) = 0 then Ev T_X3_readTrees 41 [some (mR (some e)), some (mR (some t)), some (mI (q_X3_readOutside (gE_X3_skipBlanks E Q) U (q_X5_at Q ((gE_X3_skipBlanks E Q) 0 3)))), some (mI (x3 + 1)), none] [] (pt (pt (pt X e (gE_X3_readOutside (gE_X3_skipBlanks E Q) U (q_X5_at Q ((gE_X3_skipBlanks E Q) 0 3)))) t Q) n (gU_X3_readOutside (gE_X3_skipBlanks E Q) U (q_X5_at Q ((gE_X3_skipBlanks E Q) 0 3))), J) else Ev T_X3_readTrees 41 [some (mR (some e)), some (mR (some t)), some (mI (q_X3_readInside (gE_X3_skipBlanks E Q) Q U (q_X5_at Q ((gE_X3_skipBlanks E Q) 0 3)))), some (mI (x3 + 1)), none] [] (pt (pt (pt X e (gE_X3_readInside (gE_X3_skipBlanks E Q) Q U (q_X5_at Q ((gE_X3_skipBlanks E Q) 0 3)))) t Q) n (gU_X3_readInside (gE_X3_skipBlanks E Q) Q U (q_X5_at Q ((gE_X3_skipBlanks E Q) 0 3))), J)))) = R
  rw [E_X3_readTrees_41]
  by_cases h1 : x2 = 0
  · rewrite [if_pos h1]; simp only [if_pos h1] at hR
    try rewrite [fI_ok 1 hE.k]
    try rewrite [Option.bind_some]
    try rewrite [pt_out (x := e) (a := n) (by have := d_EU; omega)]
    try rewrite [pt_out (x := e) (a := t) (by have := d_EQ; omega)]
    try rewrite [p1_0]
    by_cases h2 : (E 0 1) = 0
    · rewrite [if_pos h2]; simp only [if_pos h2] at hR
      first | exact hR | (simp only [if_pos (show (0 : Int32) = 0 ∨ (0 : Int32) = 1 by decide), if_pos (show (1 : Int32) = 0 ∨ (1 : Int32) = 1 by decide)]; exact hR) | (simp; exact hR)
    · rewrite [if_neg h2]; simp only [if_neg h2] at hR
      first | exact hR | (simp only [if_pos (show (0 : Int32) = 0 ∨ (0 : Int32) = 1 by decide), if_pos (show (1 : Int32) = 0 ∨ (1 : Int32) = 1 by decide)]; exact hR) | (simp; exact hR)
  · rewrite [if_neg h1]; simp only [if_neg h1] at hR
    by_cases h3 : (800 : Int32) < x3
    · rewrite [if_pos h3]; simp only [if_pos h3] at hR
      try rewrite [fI_ok 1 hE.k]
      try rewrite [Option.bind_some]
      try rewrite [pt_out (x := e) (a := n) (by have := d_EU; omega)]
      try rewrite [pt_out (x := e) (a := t) (by have := d_EQ; omega)]
      try rewrite [p1_0]
      by_cases h4 : (E 0 1) = 0
      · rewrite [if_pos h4]; simp only [if_pos h4] at hR
        first | exact hR | (simp only [if_pos (show (0 : Int32) = 0 ∨ (0 : Int32) = 1 by decide), if_pos (show (1 : Int32) = 0 ∨ (1 : Int32) = 1 by decide)]; exact hR) | (simp; exact hR)
      · rewrite [if_neg h4]; simp only [if_neg h4] at hR
        first | exact hR | (simp only [if_pos (show (0 : Int32) = 0 ∨ (0 : Int32) = 1 by decide), if_pos (show (1 : Int32) = 0 ∨ (1 : Int32) = 1 by decide)]; exact hR) | (simp; exact hR)
    · rewrite [if_neg h3]; simp only [if_neg h3] at hR
      try simp only [Option.bind_some]
      rewrite [if_pos (show kd (pt (pt (pt X e E) t Q) n U, J) e = 3 from hE.k)]
      rw [pt_comm (pt X e E) Q U d_QU, pt_comm X E U d_EU]
      rw [s_X3_skipBlanks hE hT d_EQ]
      rw [pt_comm X U (gE_X3_skipBlanks E Q) (Or.symm d_EU), pt_comm (pt X e (gE_X3_skipBlanks E Q)) U Q (Or.symm d_QU)]
      simp only [Option.bind_some, asV_n]
      try rewrite [fI_ok 3 hE.k]
      try rewrite [Option.bind_some]
      try rewrite [pt_out (x := e) (a := n) (by have := d_EU; omega)]
      try rewrite [pt_out (x := e) (a := t) (by have := d_EQ; omega)]
      try rewrite [p1_0]
      try simp only [Option.bind_some]
      rewrite [if_pos (show kd (pt (pt (pt X e (gE_X3_skipBlanks E Q)) t Q) n U, J) t = 5 from hT.k)]
      rw [pt_comm (pt X e (gE_X3_skipBlanks E Q)) Q U d_QU]
      rw [s_X5_at hT]
      rw [pt_comm (pt X e (gE_X3_skipBlanks E Q)) U Q (Or.symm d_QU)]
      simp only [Option.bind_some, asI_I]
      try rewrite [fZ_ok 6 hE.k]
      try rewrite [Option.bind_some]
      try rewrite [pt_out (x := e) (a := n) (by have := d_EU; omega)]
      try rewrite [pt_out (x := e) (a := t) (by have := d_EQ; omega)]
      try rewrite [p1_0]
      by_cases h5 : (bz ((gE_X3_skipBlanks E Q) 0 6)) = 0
      · rewrite [if_pos h5]; simp only [if_pos h5] at hR
        try simp only [Option.bind_some]
        rewrite [if_pos (show kd (pt (pt (pt X e (gE_X3_skipBlanks E Q)) t Q) n U, J) e = 3 from hE.k)]
        rw [pt_comm X (gE_X3_skipBlanks E Q) Q d_EQ]
        rw [s_X3_readOutside hE hN d_EU]
        rw [pt_comm X Q (gE_X3_readOutside (gE_X3_skipBlanks E Q) U (q_X5_at Q ((gE_X3_skipBlanks E Q) 0 3))) (Or.symm d_EQ)]
        simp only [Option.bind_some, asI_I]
        exact hR
      · rewrite [if_neg h5]; simp only [if_neg h5] at hR
        try simp only [Option.bind_some]
        rewrite [if_pos (show kd (pt (pt (pt X e (gE_X3_skipBlanks E Q)) t Q) n U, J) e = 3 from hE.k)]
        rewrite [s_X3_readInside hE hT hN d_EQ d_EU d_QU]
        simp only [Option.bind_some, asI_I]
        exact hR
def lp_X3_readTrees_41 (Q : RouV) : Nat → Nat → Int32 → OneV → NodV → Int32 × OneV × NodV
  | 0, k, x2, E, U => (if x2 = 0 then (if (E 0 1) = 0 then (1, E, U) else (0, E, U)) else (if (E 0 1) = 0 then (1, E, U) else (0, E, U)))
  | nn + 1, k, x2, E, U => (if x2 = 0 then (if (E 0 1) = 0 then (1, E, U) else (0, E, U)) else (if (bz ((gE_X3_skipBlanks E Q) 0 6)) = 0 then lp_X3_readTrees_41 Q nn (k + 1) (q_X3_readOutside (gE_X3_skipBlanks E Q) U (q_X5_at Q ((gE_X3_skipBlanks E Q) 0 3))) (gE_X3_readOutside (gE_X3_skipBlanks E Q) U (q_X5_at Q ((gE_X3_skipBlanks E Q) 0 3))) (gU_X3_readOutside (gE_X3_skipBlanks E Q) U (q_X5_at Q ((gE_X3_skipBlanks E Q) 0 3))) else lp_X3_readTrees_41 Q nn (k + 1) (q_X3_readInside (gE_X3_skipBlanks E Q) Q U (q_X5_at Q ((gE_X3_skipBlanks E Q) 0 3))) (gE_X3_readInside (gE_X3_skipBlanks E Q) Q U (q_X5_at Q ((gE_X3_skipBlanks E Q) 0 3))) (gU_X3_readInside (gE_X3_skipBlanks E Q) Q U (q_X5_at Q ((gE_X3_skipBlanks E Q) 0 3)))))
theorem lr_X3_readTrees_41 {J : MJ} {e n t : Nat} (hE : RdrL J e n) (hT : TapL J t) (hN : NodL J n) (d_EQ : e + 1 ≤ t ∨ t + 2 ≤ e) (d_EU : e + 1 ≤ n ∨ n + 6 ≤ e) (d_QU : t + 2 ≤ n ∨ n + 6 ≤ t) (X : MI) (Q : RouV) : ∀ (nn k : Nat) (x2 : Int32) (E : OneV) (U : NodV), k + nn = 801 → Ev T_X3_readTrees 41 [some (mR (some e)), some (mR (some t)), some (mI x2), some (mI (nI k)), none] [] (pt (pt (pt X e E) t Q) n U, J) = some (some (mI ((lp_X3_readTrees_41 Q nn k x2 E U).1)), (pt (pt (pt X e ((lp_X3_readTrees_41 Q nn k x2 E U).2.1)) t Q) n ((lp_X3_readTrees_41 Q nn k x2 E U).2.2), J)) := by
  intro nn
  induction nn with
  | zero =>
    intro k x2 E U hk
    have hk : k = 801 := by omega
    subst hk
    generalize hR : some (some (mI ((lp_X3_readTrees_41 Q 0 801 x2 E U).1)), (pt (pt (pt X e ((lp_X3_readTrees_41 Q 0 801 x2 E U).2.1)) t Q) n ((lp_X3_readTrees_41 Q 0 801 x2 E U).2.2), J)) = R
    rw [lp_X3_readTrees_41] at hR
    rw [P_X3_readTrees_41 hE hT hN d_EQ d_EU d_QU _ _ _ _ _ _]
    by_cases k1 : x2 = 0
    · rewrite [if_pos k1]; simp only [if_pos k1] at hR
      by_cases k2 : (E 0 1) = 0
      · rewrite [if_pos k2]; simp only [if_pos k2] at hR
        exact hR
      · rewrite [if_neg k2]; simp only [if_neg k2] at hR
        exact hR
    · rewrite [if_neg k1]; simp only [if_neg k1] at hR
      rewrite [if_pos (show (800 : Int32) < nI 801 by decide)]
      by_cases k2 : (E 0 1) = 0
      · rewrite [if_pos k2]; simp only [if_pos k2] at hR
        exact hR
      · rewrite [if_neg k2]; simp only [if_neg k2] at hR
        exact hR
  | succ nn ih =>
    intro k x2 E U hk
    generalize hR : some (some (mI ((lp_X3_readTrees_41 Q (nn + 1) k x2 E U).1)), (pt (pt (pt X e ((lp_X3_readTrees_41 Q (nn + 1) k x2 E U).2.1)) t Q) n ((lp_X3_readTrees_41 Q (nn + 1) k x2 E U).2.2), J)) = R
    rw [lp_X3_readTrees_41] at hR
    rw [P_X3_readTrees_41 hE hT hN d_EQ d_EU d_QU _ _ _ _ _ _]
    try rw [ix_nI (by omega)]
    rw [nI_1 k]
    by_cases k1 : x2 = 0
    · rewrite [if_pos k1]; simp only [if_pos k1] at hR
      by_cases k2 : (E 0 1) = 0
      · rewrite [if_pos k2]; simp only [if_pos k2] at hR
        exact hR
      · rewrite [if_neg k2]; simp only [if_neg k2] at hR
        exact hR
    · rewrite [if_neg k1]; simp only [if_neg k1] at hR
      rewrite [if_neg (show ¬ (800 : Int32) < nI k by rw [i32_lt, nI_toInt (by omega)]; exact fun h => absurd h (by show ¬ ((800 : Int) < _); omega))]
      by_cases k2 : (bz ((gE_X3_skipBlanks E Q) 0 6)) = 0
      · rewrite [if_pos k2]; simp only [if_pos k2] at hR
        exact (ih (k + 1) _ _ _ (by omega)).trans hR
      · rewrite [if_neg k2]; simp only [if_neg k2] at hR
        exact (ih (k + 1) _ _ _ (by omega)).trans hR
def o_X3_readTrees (E : OneV) (Q : RouV) (U : NodV)  : Int32 × OneV × NodV := lp_X3_readTrees_41 Q 801 0 1 (uv (uv (uv (uv (uv (uv E 0 1 0) 0 2 ((-1))) 0 3 0) 0 4 0) 0 5 ((-1))) 0 6 0) (gU_X2_clear U)
def q_X3_readTrees (E : OneV) (Q : RouV) (U : NodV)  : Int32 := (o_X3_readTrees E Q U).1
def gE_X3_readTrees (E : OneV) (Q : RouV) (U : NodV)  : OneV := (o_X3_readTrees E Q U).2.1
def gU_X3_readTrees (E : OneV) (Q : RouV) (U : NodV)  : NodV := (o_X3_readTrees E Q U).2.2
theorem s_X3_readTrees {J : MJ} {e n t : Nat} (hE : RdrL J e n) (hT : TapL J t) (hN : NodL J n) (d_EQ : e + 1 ≤ t ∨ t + 2 ≤ e) (d_EU : e + 1 ≤ n ∨ n + 6 ≤ e) (d_QU : t + 2 ≤ n ∨ n + 6 ≤ t) (X : MI) (E : OneV) (Q : RouV) (U : NodV)  : M_X3_readTrees [mR (some e), mR (some t)] (pt (pt (pt X e E) t Q) n U, J) = some (some (mI (q_X3_readTrees E Q U)), (pt (pt (pt X e ((gE_X3_readTrees E Q U))) t Q) n ((gU_X3_readTrees E Q U)), J)) := by
  generalize hR : some (some (mI (q_X3_readTrees E Q U)), (pt (pt (pt X e ((gE_X3_readTrees E Q U))) t Q) n ((gU_X3_readTrees E Q U)), J)) = R
  rw [P_X3_readTrees hE hT hN d_EQ d_EU d_QU]
  unfold q_X3_readTrees gE_X3_readTrees gU_X3_readTrees o_X3_readTrees at hR
  have z := lr_X3_readTrees_41 hE hT hN d_EQ d_EU d_QU X Q 801 0 1 (uv (uv (uv (uv (uv (uv E 0 1 0) 0 2 ((-1))) 0 3 0) 0 4 0) 0 5 ((-1))) 0 6 0) (gU_X2_clear U) (Nat.zero_add _)
  rw [show nI 0 = 0 from rfl] at z
  rw [z]
  rw [← hR]
end
section
/-! The closed forms over a heap as it lies (windows looked at by vw). Written by gen/run6.py. -/
theorem pt_k1 {N M : Nat} {I : MI} {a b : Nat} {V : Fin N → Nat → Int32} (h : a + N ≤ b ∨ b + M ≤ a) : pt (pt I a V) b (vw M I b) = pt I a V := by
  have := pt_vw (N := M) (pt I a V) b
  rwa [vw_out I V (Or.symm h)] at this
theorem pt_k2 {N N2 M : Nat} {I : MI} {a a2 b : Nat} {V : Fin N → Nat → Int32} {V2 : Fin N2 → Nat → Int32} (h : a + N ≤ b ∨ b + M ≤ a) (h2 : a2 + N2 ≤ b ∨ b + M ≤ a2) : pt (pt (pt I a V) a2 V2) b (vw M I b) = pt (pt I a V) a2 V2 := by
  have := pt_vw (N := M) (pt (pt I a V) a2 V2) b
  rwa [vw_out _ V2 (Or.symm h2), vw_out I V (Or.symm h)] at this
theorem t_X2_hasVolume {J : MJ} {n : Nat} (hN : NodL J n) (I : MI) (x1 : Int32) : M_X2_hasVolume [mR (some n), mI x1] (I, J) = some (some (mI (q_X2_hasVolume (vw 6 I n) x1)), (I, J)) := by
  have h := s_X2_hasVolume hN I (vw 6 I n) x1
  simp only [pt_vw] at h
  exact h
theorem t_X2_rootOf {J : MJ} {n : Nat} (hN : NodL J n) (I : MI) (x1 : Int32) : M_X2_rootOf [mR (some n), mI x1] (I, J) = some (some (mI (q_X2_rootOf (vw 6 I n) x1)), (I, J)) := by
  have h := s_X2_rootOf hN I (vw 6 I n) x1
  simp only [pt_vw] at h
  exact h
theorem t_X2_exists {J : MJ} {n : Nat} (hN : NodL J n) (I : MI) (x1 : Int32) : M_X2_exists [mR (some n), mI x1] (I, J) = some (some (mI (q_X2_exists (vw 6 I n) x1)), (I, J)) := by
  have h := s_X2_exists hN I (vw 6 I n) x1
  simp only [pt_vw] at h
  exact h
theorem t_X2_isFolder {J : MJ} {n : Nat} (hN : NodL J n) (I : MI) (x1 : Int32) : M_X2_isFolder [mR (some n), mI x1] (I, J) = some (some (mI (q_X2_isFolder (vw 6 I n) x1)), (I, J)) := by
  have h := s_X2_isFolder hN I (vw 6 I n) x1
  simp only [pt_vw] at h
  exact h
theorem t_X2_put {J : MJ} {n : Nat} (hN : NodL J n) (I : MI) (x1 : Int32) (x2 : Int32) (x3 : Int32) (x4 : Int32) : M_X2_put [mR (some n), mI x1, mI x2, mI x3, mI x4] (I, J) = some (some (mI (q_X2_put (vw 6 I n) x1 x2 x3 x4)), (pt I n (gU_X2_put (vw 6 I n) x1 x2 x3 x4), J)) := by
  have h := s_X2_put hN I (vw 6 I n) x1 x2 x3 x4
  simp only [pt_vw] at h
  exact h
theorem t_X2_addIn {J : MJ} {n : Nat} (hN : NodL J n) (I : MI) (x1 : Int32) (x2 : Int32) (x3 : Int32) : M_X2_addIn [mR (some n), mI x1, mI x2, mI x3] (I, J) = some (some (mI (q_X2_addIn (vw 6 I n) x1 x2 x3)), (pt I n (gU_X2_addIn (vw 6 I n) x1 x2 x3), J)) := by
  have h := s_X2_addIn hN I (vw 6 I n) x1 x2 x3
  simp only [pt_vw] at h
  exact h
theorem t_X2_volumeOf {J : MJ} {n : Nat} (hN : NodL J n) (I : MI) (x1 : Int32) : M_X2_volumeOf [mR (some n), mI x1] (I, J) = some (some (mI (q_X2_volumeOf (vw 6 I n) x1)), (I, J)) := by
  have h := s_X2_volumeOf hN I (vw 6 I n) x1
  simp only [pt_vw] at h
  exact h
theorem t_X2_clear {J : MJ} {n : Nat} (hN : NodL J n) (I : MI) : M_X2_clear [mR (some n)] (I, J) = some (none, (pt I n (gU_X2_clear (vw 6 I n)), J)) := by
  have h := s_X2_clear hN I (vw 6 I n)
  simp only [pt_vw] at h
  exact h
theorem t_X2_isFull {J : MJ} {n : Nat} (hN : NodL J n) (I : MI) : M_X2_isFull [mR (some n)] (I, J) = some (some (mI (q_X2_isFull (vw 6 I n))), (I, J)) := by
  have h := s_X2_isFull hN I (vw 6 I n)
  simp only [pt_vw] at h
  exact h
theorem t_X2_parentOf {J : MJ} {n : Nat} (hN : NodL J n) (I : MI) (x1 : Int32) : M_X2_parentOf [mR (some n), mI x1] (I, J) = some (some (mI (q_X2_parentOf (vw 6 I n) x1)), (I, J)) := by
  have h := s_X2_parentOf hN I (vw 6 I n) x1
  simp only [pt_vw] at h
  exact h
theorem t_X2_nameOf {J : MJ} {n : Nat} (hN : NodL J n) (I : MI) (x1 : Int32) : M_X2_nameOf [mR (some n), mI x1] (I, J) = some (some (mI (q_X2_nameOf (vw 6 I n) x1)), (I, J)) := by
  have h := s_X2_nameOf hN I (vw 6 I n) x1
  simp only [pt_vw] at h
  exact h
theorem t_X2_becomeFolder {J : MJ} {n : Nat} (hN : NodL J n) (I : MI) (x1 : Int32) : M_X2_becomeFolder [mR (some n), mI x1] (I, J) = some (none, (pt I n (gU_X2_becomeFolder (vw 6 I n) x1), J)) := by
  have h := s_X2_becomeFolder hN I (vw 6 I n) x1
  simp only [pt_vw] at h
  exact h
theorem t_X2_take {J : MJ} {n : Nat} (hN : NodL J n) (I : MI) (x1 : Int32) : M_X2_take [mR (some n), mI x1] (I, J) = some (none, (pt I n (gU_X2_take (vw 6 I n) x1), J)) := by
  have h := s_X2_take hN I (vw 6 I n) x1
  simp only [pt_vw] at h
  exact h
theorem t_X2_move {J : MJ} {n : Nat} (hN : NodL J n) (I : MI) (x1 : Int32) (x2 : Int32) (x3 : Int32) : M_X2_move [mR (some n), mI x1, mI x2, mI x3] (I, J) = some (none, (pt I n (gU_X2_move (vw 6 I n) x1 x2 x3), J)) := by
  have h := s_X2_move hN I (vw 6 I n) x1 x2 x3
  simp only [pt_vw] at h
  exact h
theorem t_X5_at {J : MJ} {t : Nat} (hT : TapL J t) (I : MI) (x1 : Int32) : M_X5_at [mR (some t), mI x1] (I, J) = some (some (mI (q_X5_at (vw 2 I t) x1)), (I, J)) := by
  have h := s_X5_at hT I (vw 2 I t) x1
  simp only [pt_vw] at h
  exact h
theorem t_X5_hasSpace {J : MJ} {t : Nat} (hT : TapL J t) (I : MI) (x1 : Int32) : M_X5_hasSpace [mR (some t), mI x1] (I, J) = some (some (mI (q_X5_hasSpace (vw 2 I t) x1)), (I, J)) := by
  have h := s_X5_hasSpace hT I (vw 2 I t) x1
  simp only [pt_vw] at h
  exact h
theorem t_X5_cut {J : MJ} {t : Nat} (hT : TapL J t) (I : MI) (x1 : Int32) : M_X5_cut [mR (some t), mI x1] (I, J) = some (some (mI (q_X5_cut (vw 2 I t) x1)), (pt I t (gQ_X5_cut (vw 2 I t) x1), J)) := by
  have h := s_X5_cut hT I (vw 2 I t) x1
  simp only [pt_vw] at h
  exact h
theorem t_X5_clear {J : MJ} {t : Nat} (hT : TapL J t) (I : MI) : M_X5_clear [mR (some t)] (I, J) = some (none, (pt I t (gQ_X5_clear (vw 2 I t)), J)) := by
  have h := s_X5_clear hT I (vw 2 I t)
  simp only [pt_vw] at h
  exact h
theorem t_X2_find {J : MJ} {n : Nat} (hN : NodL J n) (I : MI) (x1 : Int32) (x2 : Int32) : M_X2_find [mR (some n), mI x1, mI x2] (I, J) = some (some (mI (q_X2_find (vw 6 I n) x1 x2)), (I, J)) := by
  have h := s_X2_find hN I (vw 6 I n) x1 x2
  simp only [pt_vw] at h
  exact h
theorem t_X2_howManyIn {J : MJ} {n : Nat} (hN : NodL J n) (I : MI) (x1 : Int32) : M_X2_howManyIn [mR (some n), mI x1] (I, J) = some (some (mI (q_X2_howManyIn (vw 6 I n) x1)), (I, J)) := by
  have h := s_X2_howManyIn hN I (vw 6 I n) x1
  simp only [pt_vw] at h
  exact h
theorem t_X2_howMany {J : MJ} {n : Nat} (hN : NodL J n) (I : MI) : M_X2_howMany [mR (some n)] (I, J) = some (some (mI (q_X2_howMany (vw 6 I n))), (I, J)) := by
  have h := s_X2_howMany hN I (vw 6 I n)
  simp only [pt_vw] at h
  exact h
theorem t_X2_tell {J : MJ} {n : Nat} (hN : NodL J n) (I : MI) (x1 : Int32) (x2 : Int32) : M_X2_tell [mR (some n), mI x1, mI x2] (I, J) = some (some (mI (q_X2_tell (vw 6 I n) x1 x2)), (I, J)) := by
  have h := s_X2_tell hN I (vw 6 I n) x1 x2
  simp only [pt_vw] at h
  exact h
theorem t_X1_leastUnused {J : MJ} {m n : Nat} (hM : MemL J m n) (I : MI) : M_X1_leastUnused [mR (some m)] (I, J) = some (some (mI (q_X1_leastUnused (vw 12 I m))), (I, J)) := by
  have h := s_X1_leastUnused hM I (vw 12 I m)
  simp only [pt_vw] at h
  exact h
theorem t_X1_hold {J : MJ} {m n : Nat} (hM : MemL J m n) (I : MI) (x1 : Int32) : M_X1_hold [mR (some m), mI x1] (I, J) = some (none, (pt I m (gV_X1_hold (vw 12 I m) x1), J)) := by
  have h := s_X1_hold hM I (vw 12 I m) x1
  simp only [pt_vw] at h
  exact h
theorem t_X1_comeTo {J : MJ} {m n : Nat} (hM : MemL J m n) (I : MI) (x1 : Int32) : M_X1_comeTo [mR (some m), mI x1] (I, J) = some (none, (pt I m (gV_X1_comeTo (vw 12 I m) x1), J)) := by
  have h := s_X1_comeTo hM I (vw 12 I m) x1
  simp only [pt_vw] at h
  exact h
theorem t_X1_add {J : MJ} {m n : Nat} (hM : MemL J m n) (I : MI) (x1 : Int32) (x2 : Int32) (x3 : Int32) : M_X1_add [mR (some m), mI x1, mI x2, mI x3] (I, J) = some (some (mI (q_X1_add (vw 12 I m) x1 x2 x3)), (pt I m (gV_X1_add (vw 12 I m) x1 x2 x3), J)) := by
  have h := s_X1_add hM I (vw 12 I m) x1 x2 x3
  simp only [pt_vw] at h
  exact h
theorem t_X1_startAnew {J : MJ} {n m : Nat} (hN : NodL J n) (hM : MemL J m n) (d_UV : n + 6 ≤ m ∨ m + 12 ≤ n) (I : MI) : M_X1_startAnew [mR (some m)] (I, J) = some (none, (pt I m (gV_X1_startAnew (vw 6 I n) (vw 12 I m)), J)) := by
  have h := s_X1_startAnew hN hM d_UV I (vw 6 I n) (vw 12 I m)
  simp only [pt_vw] at h
  exact h
theorem t_X1_isEntry {J : MJ} {m n : Nat} (hM : MemL J m n) (I : MI) (x1 : Int32) : M_X1_isEntry [mR (some m), mI x1] (I, J) = some (some (mI (q_X1_isEntry (vw 12 I m) x1)), (I, J)) := by
  have h := s_X1_isEntry hM I (vw 12 I m) x1
  simp only [pt_vw] at h
  exact h
theorem t_X1_isGone {J : MJ} {m n : Nat} (hM : MemL J m n) (I : MI) (x1 : Int32) : M_X1_isGone [mR (some m), mI x1] (I, J) = some (some (mI (q_X1_isGone (vw 12 I m) x1)), (I, J)) := by
  have h := s_X1_isGone hM I (vw 12 I m) x1
  simp only [pt_vw] at h
  exact h
theorem t_X1_isAbsence {J : MJ} {m n : Nat} (hM : MemL J m n) (I : MI) (x1 : Int32) : M_X1_isAbsence [mR (some m), mI x1] (I, J) = some (some (mI (q_X1_isAbsence (vw 12 I m) x1)), (I, J)) := by
  have h := s_X1_isAbsence hM I (vw 12 I m) x1
  simp only [pt_vw] at h
  exact h
theorem t_X1_isFolder {J : MJ} {n m : Nat} (hN : NodL J n) (hM : MemL J m n) (d_UV : n + 6 ≤ m ∨ m + 12 ≤ n) (I : MI) (x1 : Int32) : M_X1_isFolder [mR (some m), mI x1] (I, J) = some (some (mI (q_X1_isFolder (vw 6 I n) (vw 12 I m) x1)), (I, J)) := by
  have h := s_X1_isFolder hN hM d_UV I (vw 6 I n) (vw 12 I m) x1
  simp only [pt_vw] at h
  exact h
theorem t_X1_nodeOf {J : MJ} {m n : Nat} (hM : MemL J m n) (I : MI) (x1 : Int32) : M_X1_nodeOf [mR (some m), mI x1] (I, J) = some (some (mI (q_X1_nodeOf (vw 12 I m) x1)), (I, J)) := by
  have h := s_X1_nodeOf hM I (vw 12 I m) x1
  simp only [pt_vw] at h
  exact h
theorem t_X1_nameOf {J : MJ} {m n : Nat} (hM : MemL J m n) (I : MI) (x1 : Int32) : M_X1_nameOf [mR (some m), mI x1] (I, J) = some (some (mI (q_X1_nameOf (vw 12 I m) x1)), (I, J)) := by
  have h := s_X1_nameOf hM I (vw 12 I m) x1
  simp only [pt_vw] at h
  exact h
theorem t_X1_isMounted {J : MJ} {m n : Nat} (hM : MemL J m n) (I : MI) (x1 : Int32) : M_X1_isMounted [mR (some m), mI x1] (I, J) = some (some (mI (q_X1_isMounted (vw 12 I m) x1)), (I, J)) := by
  have h := s_X1_isMounted hM I (vw 12 I m) x1
  simp only [pt_vw] at h
  exact h
theorem t_X1_rootVolume {J : MJ} {m n : Nat} (hM : MemL J m n) (I : MI) (x1 : Int32) : M_X1_rootVolume [mR (some m), mI x1] (I, J) = some (some (mI (q_X1_rootVolume (vw 12 I m) x1)), (I, J)) := by
  have h := s_X1_rootVolume hM I (vw 12 I m) x1
  simp only [pt_vw] at h
  exact h
theorem t_X1_coveringVolume {J : MJ} {m n : Nat} (hM : MemL J m n) (I : MI) (x1 : Int32) : M_X1_coveringVolume [mR (some m), mI x1] (I, J) = some (some (mI (q_X1_coveringVolume (vw 12 I m) x1)), (I, J)) := by
  have h := s_X1_coveringVolume hM I (vw 12 I m) x1
  simp only [pt_vw] at h
  exact h
theorem t_X1_coveredBy {J : MJ} {m n : Nat} (hM : MemL J m n) (I : MI) (x1 : Int32) : M_X1_coveredBy [mR (some m), mI x1] (I, J) = some (some (mI (q_X1_coveredBy (vw 12 I m) x1)), (I, J)) := by
  have h := s_X1_coveredBy hM I (vw 12 I m) x1
  simp only [pt_vw] at h
  exact h
theorem t_X1_canChange {J : MJ} {m n : Nat} (hM : MemL J m n) (I : MI) (x1 : Int32) : M_X1_canChange [mR (some m), mI x1] (I, J) = some (some (mI (q_X1_canChange (vw 12 I m) x1)), (I, J)) := by
  have h := s_X1_canChange hM I (vw 12 I m) x1
  simp only [pt_vw] at h
  exact h
theorem t_X1_find {J : MJ} {m n : Nat} (hM : MemL J m n) (I : MI) (x1 : Int32) (x2 : Int32) : M_X1_find [mR (some m), mI x1, mI x2] (I, J) = some (some (mI (q_X1_find (vw 12 I m) x1 x2)), (I, J)) := by
  have h := s_X1_find hM I (vw 12 I m) x1 x2
  simp only [pt_vw] at h
  exact h
theorem t_X1_drop {J : MJ} {m n : Nat} (hM : MemL J m n) (I : MI) (x1 : Int32) : M_X1_drop [mR (some m), mI x1] (I, J) = some (none, (pt I m (gV_X1_drop (vw 12 I m) x1), J)) := by
  have h := s_X1_drop hM I (vw 12 I m) x1
  simp only [pt_vw] at h
  exact h
theorem t_X1_release {J : MJ} {m n : Nat} (hM : MemL J m n) (I : MI) (x1 : Int32) : M_X1_release [mR (some m), mI x1] (I, J) = some (none, (pt I m (gV_X1_release (vw 12 I m) x1), J)) := by
  have h := s_X1_release hM I (vw 12 I m) x1
  simp only [pt_vw] at h
  exact h
theorem t_X1_howManyButRoots {J : MJ} {m n : Nat} (hM : MemL J m n) (I : MI) : M_X1_howManyButRoots [mR (some m)] (I, J) = some (some (mI (q_X1_howManyButRoots (vw 12 I m))), (I, J)) := by
  have h := s_X1_howManyButRoots hM I (vw 12 I m)
  simp only [pt_vw] at h
  exact h
theorem t_X1_longestUnused {J : MJ} {m n : Nat} (hM : MemL J m n) (I : MI) (x1 : Int32) : M_X1_longestUnused [mR (some m), mI x1] (I, J) = some (some (mI (q_X1_longestUnused (vw 12 I m) x1)), (I, J)) := by
  have h := s_X1_longestUnused hM I (vw 12 I m) x1
  simp only [pt_vw] at h
  exact h
theorem t_X1_shrink {J : MJ} {m n : Nat} (hM : MemL J m n) (I : MI) (x1 : Int32) : M_X1_shrink [mR (some m), mI x1] (I, J) = some (none, (pt I m (gV_X1_shrink (vw 12 I m) x1), J)) := by
  have h := s_X1_shrink hM I (vw 12 I m) x1
  simp only [pt_vw] at h
  exact h
theorem t_X1_reach {J : MJ} {n m : Nat} (hN : NodL J n) (hM : MemL J m n) (d_UV : n + 6 ≤ m ∨ m + 12 ≤ n) (I : MI) (x1 : Int32) (x2 : Int32) : M_X1_reach [mR (some m), mI x1, mI x2] (I, J) = some (some (mI (q_X1_reach (vw 6 I n) (vw 12 I m) x1 x2)), (pt I m (gV_X1_reach (vw 6 I n) (vw 12 I m) x1 x2), J)) := by
  have h := s_X1_reach hN hM d_UV I (vw 6 I n) (vw 12 I m) x1 x2
  simp only [pt_vw] at h
  exact h
theorem t_X1_trimSome {J : MJ} {m n : Nat} (hM : MemL J m n) (I : MI) (x1 : Int32) : M_X1_trimSome [mR (some m), mI x1] (I, J) = some (some (mI (q_X1_trimSome (vw 12 I m) x1)), (pt I m (gV_X1_trimSome (vw 12 I m) x1), J)) := by
  have h := s_X1_trimSome hM I (vw 12 I m) x1
  simp only [pt_vw] at h
  exact h
theorem t_X1_comeToRoot {J : MJ} {m n : Nat} (hM : MemL J m n) (I : MI) : M_X1_comeToRoot [mR (some m)] (I, J) = some (some (mI (q_X1_comeToRoot (vw 12 I m))), (pt I m (gV_X1_comeToRoot (vw 12 I m)), J)) := by
  have h := s_X1_comeToRoot hM I (vw 12 I m)
  simp only [pt_vw] at h
  exact h
theorem t_X1_stepUp {J : MJ} {m n : Nat} (hM : MemL J m n) (I : MI) (x1 : Int32) : M_X1_stepUp [mR (some m), mI x1] (I, J) = some (some (mI (q_X1_stepUp (vw 12 I m) x1)), (pt I m (gV_X1_stepUp (vw 12 I m) x1), J)) := by
  have h := s_X1_stepUp hM I (vw 12 I m) x1
  simp only [pt_vw] at h
  exact h
theorem t_X1_stepFrom {J : MJ} {n m : Nat} (hN : NodL J n) (hM : MemL J m n) (d_UV : n + 6 ≤ m ∨ m + 12 ≤ n) (I : MI) (x1 : Int32) (x2 : Int32) : M_X1_stepFrom [mR (some m), mI x1, mI x2] (I, J) = some (some (mI (q_X1_stepFrom (vw 6 I n) (vw 12 I m) x1 x2)), (pt I m (gV_X1_stepFrom (vw 6 I n) (vw 12 I m) x1 x2), J)) := by
  have h := s_X1_stepFrom hN hM d_UV I (vw 6 I n) (vw 12 I m) x1 x2
  simp only [pt_vw] at h
  exact h
theorem t_X1_fill {J : MJ} {n m : Nat} (hN : NodL J n) (hM : MemL J m n) (d_UV : n + 6 ≤ m ∨ m + 12 ≤ n) (I : MI) (x1 : Int32) (x2 : Int32) : M_X1_fill [mR (some m), mI x1, mI x2] (I, J) = some (some (mI (q_X1_fill (vw 6 I n) (vw 12 I m) x1 x2)), (pt (pt I n (gU_X1_fill (vw 6 I n) (vw 12 I m) x1 x2)) m (gV_X1_fill (vw 6 I n) (vw 12 I m) x1 x2), J)) := by
  have h := s_X1_fill hN hM d_UV I (vw 6 I n) (vw 12 I m) x1 x2
  simp only [pt_vw] at h
  exact h
theorem t_X1_empty {J : MJ} {m n : Nat} (hM : MemL J m n) (I : MI) (x1 : Int32) : M_X1_empty [mR (some m), mI x1] (I, J) = some (none, (pt I m (gV_X1_empty (vw 12 I m) x1), J)) := by
  have h := s_X1_empty hM I (vw 12 I m) x1
  simp only [pt_vw] at h
  exact h
theorem t_X1_move {J : MJ} {m n : Nat} (hM : MemL J m n) (I : MI) (x1 : Int32) (x2 : Int32) (x3 : Int32) : M_X1_move [mR (some m), mI x1, mI x2, mI x3] (I, J) = some (none, (pt I m (gV_X1_move (vw 12 I m) x1 x2 x3), J)) := by
  have h := s_X1_move hM I (vw 12 I m) x1 x2 x3
  simp only [pt_vw] at h
  exact h
theorem t_X1_isWithin {J : MJ} {m n : Nat} (hM : MemL J m n) (I : MI) (x1 : Int32) (x2 : Int32) : M_X1_isWithin [mR (some m), mI x1, mI x2] (I, J) = some (some (mI (q_X1_isWithin (vw 12 I m) x1 x2)), (I, J)) := by
  have h := s_X1_isWithin hM I (vw 12 I m) x1 x2
  simp only [pt_vw] at h
  exact h
theorem t_X1_cover {J : MJ} {n m : Nat} (hN : NodL J n) (hM : MemL J m n) (d_UV : n + 6 ≤ m ∨ m + 12 ≤ n) (I : MI) (x1 : Int32) (x2 : Int32) : M_X1_cover [mR (some m), mI x1, mI x2] (I, J) = some (some (mI (q_X1_cover (vw 6 I n) (vw 12 I m) x1 x2)), (pt I m (gV_X1_cover (vw 6 I n) (vw 12 I m) x1 x2), J)) := by
  have h := s_X1_cover hN hM d_UV I (vw 6 I n) (vw 12 I m) x1 x2
  simp only [pt_vw] at h
  exact h
theorem t_X1_isOf {J : MJ} {n m : Nat} (hN : NodL J n) (hM : MemL J m n) (d_UV : n + 6 ≤ m ∨ m + 12 ≤ n) (I : MI) (x1 : Int32) (x2 : Int32) : M_X1_isOf [mR (some m), mI x1, mI x2] (I, J) = some (some (mI (q_X1_isOf (vw 6 I n) (vw 12 I m) x1 x2)), (I, J)) := by
  have h := s_X1_isOf hN hM d_UV I (vw 6 I n) (vw 12 I m) x1 x2
  simp only [pt_vw] at h
  exact h
theorem t_X1_heldBelow {J : MJ} {m n : Nat} (hM : MemL J m n) (I : MI) (x1 : Int32) : M_X1_heldBelow [mR (some m), mI x1] (I, J) = some (some (mI (q_X1_heldBelow (vw 12 I m) x1)), (I, J)) := by
  have h := s_X1_heldBelow hM I (vw 12 I m) x1
  simp only [pt_vw] at h
  exact h
theorem t_X1_isBusy {J : MJ} {n m : Nat} (hN : NodL J n) (hM : MemL J m n) (d_UV : n + 6 ≤ m ∨ m + 12 ≤ n) (I : MI) (x1 : Int32) : M_X1_isBusy [mR (some m), mI x1] (I, J) = some (some (mI (q_X1_isBusy (vw 6 I n) (vw 12 I m) x1)), (I, J)) := by
  have h := s_X1_isBusy hN hM d_UV I (vw 6 I n) (vw 12 I m) x1
  simp only [pt_vw] at h
  exact h
theorem t_X1_howMany {J : MJ} {m n : Nat} (hM : MemL J m n) (I : MI) : M_X1_howMany [mR (some m)] (I, J) = some (some (mI (q_X1_howMany (vw 12 I m))), (I, J)) := by
  have h := s_X1_howMany hM I (vw 12 I m)
  simp only [pt_vw] at h
  exact h
theorem t_X1_dropVolume {J : MJ} {n m : Nat} (hN : NodL J n) (hM : MemL J m n) (d_UV : n + 6 ≤ m ∨ m + 12 ≤ n) (I : MI) (x1 : Int32) : M_X1_dropVolume [mR (some m), mI x1] (I, J) = some (some (mI (q_X1_dropVolume (vw 6 I n) (vw 12 I m) x1)), (pt I m (gV_X1_dropVolume (vw 6 I n) (vw 12 I m) x1), J)) := by
  have h := s_X1_dropVolume hN hM d_UV I (vw 6 I n) (vw 12 I m) x1
  simp only [pt_vw] at h
  exact h
theorem t_X1_markUpFrom {J : MJ} {m n : Nat} (hM : MemL J m n) (I : MI) (x1 : Int32) : M_X1_markUpFrom [mR (some m), mI x1] (I, J) = some (none, (pt I m (gV_X1_markUpFrom (vw 12 I m) x1), J)) := by
  have h := s_X1_markUpFrom hM I (vw 12 I m) x1
  simp only [pt_vw] at h
  exact h
theorem t_X1_keepMountsAlone {J : MJ} {m n : Nat} (hM : MemL J m n) (I : MI) : M_X1_keepMountsAlone [mR (some m)] (I, J) = some (none, (pt I m (gV_X1_keepMountsAlone (vw 12 I m)), J)) := by
  have h := s_X1_keepMountsAlone hM I (vw 12 I m)
  simp only [pt_vw] at h
  exact h
theorem t_X1_absences {J : MJ} {m n : Nat} (hM : MemL J m n) (I : MI) : M_X1_absences [mR (some m)] (I, J) = some (some (mI (q_X1_absences (vw 12 I m))), (I, J)) := by
  have h := s_X1_absences hM I (vw 12 I m)
  simp only [pt_vw] at h
  exact h
theorem t_X1_freeOnes {J : MJ} {m n : Nat} (hM : MemL J m n) (I : MI) : M_X1_freeOnes [mR (some m)] (I, J) = some (some (mI (q_X1_freeOnes (vw 12 I m))), (I, J)) := by
  have h := s_X1_freeOnes hM I (vw 12 I m)
  simp only [pt_vw] at h
  exact h
theorem t_X1_goneOnes {J : MJ} {m n : Nat} (hM : MemL J m n) (I : MI) : M_X1_goneOnes [mR (some m)] (I, J) = some (some (mI (q_X1_goneOnes (vw 12 I m))), (I, J)) := by
  have h := s_X1_goneOnes hM I (vw 12 I m)
  simp only [pt_vw] at h
  exact h
theorem t_X1_mountedBits {J : MJ} {m n : Nat} (hM : MemL J m n) (I : MI) : M_X1_mountedBits [mR (some m)] (I, J) = some (some (mI (q_X1_mountedBits (vw 12 I m))), (I, J)) := by
  have h := s_X1_mountedBits hM I (vw 12 I m)
  simp only [pt_vw] at h
  exact h
theorem t_X1_tell {J : MJ} {m n : Nat} (hM : MemL J m n) (I : MI) (x1 : Int32) (x2 : Int32) : M_X1_tell [mR (some m), mI x1, mI x2] (I, J) = some (some (mI (q_X1_tell (vw 12 I m) x1 x2)), (I, J)) := by
  have h := s_X1_tell hM I (vw 12 I m) x1 x2
  simp only [pt_vw] at h
  exact h
theorem t_X4_clear {J : MJ} {r L : Nat} (hP : RouL J r L) (I : MI) : M_X4_clear [mR (some r)] (I, J) = some (none, (pt I r (gP_X4_clear L (vw 2 I r)), J)) := by
  have h := s_X4_clear hP I (vw 2 I r)
  simp only [pt_vw] at h
  exact h
theorem t_X4_stepAt {J : MJ} {r L : Nat} (hP : RouL J r L) (I : MI) (x1 : Int32) : M_X4_stepAt [mR (some r), mI x1] (I, J) = some (some (mI (q_X4_stepAt L (vw 2 I r) x1)), (I, J)) := by
  have h := s_X4_stepAt hP I (vw 2 I r) x1
  simp only [pt_vw] at h
  exact h
theorem t_X4_push {J : MJ} {r L : Nat} (hP : RouL J r L) (I : MI) (x1 : Int32) : M_X4_push [mR (some r), mI x1] (I, J) = some (some (mI (q_X4_push L (vw 2 I r) x1)), (pt I r (gP_X4_push L (vw 2 I r) x1), J)) := by
  have h := s_X4_push hP I (vw 2 I r) x1
  simp only [pt_vw] at h
  exact h
theorem t_X4_last {J : MJ} {r L : Nat} (hP : RouL J r L) (I : MI) : M_X4_last [mR (some r)] (I, J) = some (some (mI (q_X4_last L (vw 2 I r))), (I, J)) := by
  have h := s_X4_last hP I (vw 2 I r)
  simp only [pt_vw] at h
  exact h
theorem t_X4_copyFrom {J : MJ} {r2 L2 r L : Nat} (hP2 : RouL J r2 L2) (hP : RouL J r L) (d_P2P : r2 + 2 ≤ r ∨ r + 2 ≤ r2) (I : MI) : M_X4_copyFrom [mR (some r), mR (some r2)] (I, J) = some (none, (pt I r (gP_X4_copyFrom L2 L (vw 2 I r2) (vw 2 I r)), J)) := by
  have h := s_X4_copyFrom hP2 hP d_P2P I (vw 2 I r2) (vw 2 I r)
  simp only [pt_vw] at h
  exact h
theorem t_X9_nameBetween {J : MJ} {t : Nat} (hT : TapL J t) (I : MI) (x1 : Int32) (x2 : Int32) : M_X9_nameBetween [mR (some t), mI x1, mI x2] (I, J) = some (some (mI (q_X9_nameBetween (vw 2 I t) x1 x2)), (I, J)) := by
  have h := s_X9_nameBetween hT I (vw 2 I t) x1 x2
  simp only [pt_vw] at h
  exact h
theorem t_X9_stepBetween {J : MJ} {t : Nat} (hT : TapL J t) (I : MI) (x1 : Int32) (x2 : Int32) : M_X9_stepBetween [mR (some t), mI x1, mI x2] (I, J) = some (some (mI (q_X9_stepBetween (vw 2 I t) x1 x2)), (I, J)) := by
  have h := s_X9_stepBetween hT I (vw 2 I t) x1 x2
  simp only [pt_vw] at h
  exact h
theorem t_X1_walk {J : MJ} {r L n m : Nat} (hP : RouL J r L) (hN : NodL J n) (hM : MemL J m n) (d_PU : r + 2 ≤ n ∨ n + 6 ≤ r) (d_PV : r + 2 ≤ m ∨ m + 12 ≤ r) (d_UV : n + 6 ≤ m ∨ m + 12 ≤ n) (I : MI) (x2 : Int32) : M_X1_walk [mR (some m), mR (some r), mI x2] (I, J) = some (some (mI (q_X1_walk L (vw 2 I r) (vw 6 I n) (vw 12 I m) x2)), (pt I m (gV_X1_walk L (vw 2 I r) (vw 6 I n) (vw 12 I m) x2), J)) := by
  have h := s_X1_walk hP hN hM d_PU d_PV d_UV I (vw 2 I r) (vw 6 I n) (vw 12 I m) x2
  simp only [pt_vw] at h
  exact h
theorem t_X2_copyFrom {J : MJ} {n2 n : Nat} (hN2 : NodL J n2) (hN : NodL J n) (d_U2U : n2 + 6 ≤ n ∨ n + 6 ≤ n2) (I : MI) : M_X2_copyFrom [mR (some n), mR (some n2)] (I, J) = some (none, (pt I n (gU_X2_copyFrom (vw 6 I n2) (vw 6 I n)), J)) := by
  have h := s_X2_copyFrom hN2 hN d_U2U I (vw 6 I n2) (vw 6 I n)
  simp only [pt_vw] at h
  exact h
theorem t_X1_copyFrom {J : MJ} {m2 nx m n : Nat} (hM2 : MemL J m2 nx) (hM : MemL J m n) (d_V2V : m2 + 12 ≤ m ∨ m + 12 ≤ m2) (I : MI) : M_X1_copyFrom [mR (some m), mR (some m2)] (I, J) = some (none, (pt I m (gV_X1_copyFrom (vw 12 I m2) (vw 12 I m)), J)) := by
  have h := s_X1_copyFrom hM2 hM d_V2V I (vw 12 I m2) (vw 12 I m)
  simp only [pt_vw] at h
  exact h
theorem t_X7_isThrough {J : MJ} {w r b L : Nat} (hK : WalL J w r b) (hP : RouL J r L) (d_KP : w + 1 ≤ r ∨ r + 2 ≤ w) (I : MI) : M_X7_isThrough [mR (some w)] (I, J) = some (some (mI (q_X7_isThrough L (vw 1 I w) (vw 2 I r))), (I, J)) := by
  have h := s_X7_isThrough hK hP d_KP I (vw 1 I w) (vw 2 I r)
  simp only [pt_vw] at h
  exact h
theorem t_X7_lastOfWay {J : MJ} {w r b : Nat} (hK : WalL J w r b) (hB : BufL J b) (d_KB : w + 1 ≤ b ∨ b + 3 ≤ w) (I : MI) : M_X7_lastOfWay [mR (some w)] (I, J) = some (some (mI (q_X7_lastOfWay (vw 1 I w) (vw 3 I b))), (I, J)) := by
  have h := s_X7_lastOfWay hK hB d_KB I (vw 1 I w) (vw 3 I b)
  simp only [pt_vw] at h
  exact h
theorem t_X7_tell {J : MJ} {w r b L : Nat} (hK : WalL J w r b) (hP : RouL J r L) (hB : BufL J b) (d_KP : w + 1 ≤ r ∨ r + 2 ≤ w) (d_KB : w + 1 ≤ b ∨ b + 3 ≤ w) (d_PB : r + 2 ≤ b ∨ b + 3 ≤ r) (I : MI) (x1 : Int32) : M_X7_tell [mR (some w), mI x1] (I, J) = some (some (mI (q_X7_tell L (vw 1 I w) (vw 2 I r) (vw 3 I b) x1)), (I, J)) := by
  have h := s_X7_tell hK hP hB d_KP d_KB d_PB I (vw 1 I w) (vw 2 I r) (vw 3 I b) x1
  simp only [pt_vw] at h
  exact h
theorem t_X7_isChanged {J : MJ} {w r b m n : Nat} (hK : WalL J w r b) (hB : BufL J b) (hM : MemL J m n) (d_KB : w + 1 ≤ b ∨ b + 3 ≤ w) (d_KV : w + 1 ≤ m ∨ m + 12 ≤ w) (d_BV : b + 3 ≤ m ∨ m + 12 ≤ b) (I : MI) : M_X7_isChanged [mR (some w), mR (some m)] (I, J) = some (some (mI (q_X7_isChanged (vw 1 I w) (vw 3 I b) (vw 12 I m))), (I, J)) := by
  have h := s_X7_isChanged hK hB hM d_KB d_KV d_BV I (vw 1 I w) (vw 3 I b) (vw 12 I m)
  simp only [pt_vw] at h
  exact h
theorem t_X7_holdAll {J : MJ} {w r b m n : Nat} (hK : WalL J w r b) (hB : BufL J b) (hM : MemL J m n) (d_KB : w + 1 ≤ b ∨ b + 3 ≤ w) (d_KV : w + 1 ≤ m ∨ m + 12 ≤ w) (d_BV : b + 3 ≤ m ∨ m + 12 ≤ b) (I : MI) : M_X7_holdAll [mR (some w), mR (some m)] (I, J) = some (none, (pt I m (gV_X7_holdAll (vw 1 I w) (vw 3 I b) (vw 12 I m)), J)) := by
  have h := s_X7_holdAll hK hB hM d_KB d_KV d_BV I (vw 1 I w) (vw 3 I b) (vw 12 I m)
  simp only [pt_vw] at h
  exact h
theorem t_X7_letGo {J : MJ} {w r b m n : Nat} (hK : WalL J w r b) (hB : BufL J b) (hM : MemL J m n) (d_KB : w + 1 ≤ b ∨ b + 3 ≤ w) (d_KV : w + 1 ≤ m ∨ m + 12 ≤ w) (d_BV : b + 3 ≤ m ∨ m + 12 ≤ b) (I : MI) : M_X7_letGo [mR (some w), mR (some m)] (I, J) = some (none, (pt I m (gV_X7_letGo (vw 1 I w) (vw 3 I b) (vw 12 I m)), J)) := by
  have h := s_X7_letGo hK hB hM d_KB d_KV d_BV I (vw 1 I w) (vw 3 I b) (vw 12 I m)
  simp only [pt_vw] at h
  exact h
theorem t_X7_takeTrail {J : MJ} {w r b m n : Nat} (hK : WalL J w r b) (hB : BufL J b) (hM : MemL J m n) (d_KB : w + 1 ≤ b ∨ b + 3 ≤ w) (d_KV : w + 1 ≤ m ∨ m + 12 ≤ w) (d_BV : b + 3 ≤ m ∨ m + 12 ≤ b) (I : MI) : M_X7_takeTrail [mR (some w), mR (some m)] (I, J) = some (none, (pt (pt (pt I w (gK_X7_takeTrail (vw 1 I w) (vw 3 I b) (vw 12 I m))) b (gB_X7_takeTrail (vw 1 I w) (vw 3 I b) (vw 12 I m))) m (gV_X7_takeTrail (vw 1 I w) (vw 3 I b) (vw 12 I m)), J)) := by
  have h := s_X7_takeTrail hK hB hM d_KB d_KV d_BV I (vw 1 I w) (vw 3 I b) (vw 12 I m)
  simp only [pt_vw] at h
  exact h
theorem t_X7_goToRoot {J : MJ} {w r b m n : Nat} (hK : WalL J w r b) (hB : BufL J b) (hM : MemL J m n) (d_KB : w + 1 ≤ b ∨ b + 3 ≤ w) (d_KV : w + 1 ≤ m ∨ m + 12 ≤ w) (d_BV : b + 3 ≤ m ∨ m + 12 ≤ b) (I : MI) : M_X7_goToRoot [mR (some w), mR (some m)] (I, J) = some (none, (pt (pt (pt I w (gK_X7_goToRoot (vw 1 I w) (vw 3 I b) (vw 12 I m))) b (gB_X7_goToRoot (vw 1 I w) (vw 3 I b) (vw 12 I m))) m (gV_X7_goToRoot (vw 1 I w) (vw 3 I b) (vw 12 I m)), J)) := by
  have h := s_X7_goToRoot hK hB hM d_KB d_KV d_BV I (vw 1 I w) (vw 3 I b) (vw 12 I m)
  simp only [pt_vw] at h
  exact h
theorem t_X7_stop {J : MJ} {w r b m n : Nat} (hK : WalL J w r b) (hB : BufL J b) (hM : MemL J m n) (d_KB : w + 1 ≤ b ∨ b + 3 ≤ w) (d_KV : w + 1 ≤ m ∨ m + 12 ≤ w) (d_BV : b + 3 ≤ m ∨ m + 12 ≤ b) (I : MI) : M_X7_stop [mR (some w), mR (some m)] (I, J) = some (none, (pt (pt I w (gK_X7_stop (vw 1 I w) (vw 3 I b) (vw 12 I m))) m (gV_X7_stop (vw 1 I w) (vw 3 I b) (vw 12 I m)), J)) := by
  have h := s_X7_stop hK hB hM d_KB d_KV d_BV I (vw 1 I w) (vw 3 I b) (vw 12 I m)
  simp only [pt_vw, pt_k1 d_KB] at h
  exact h
theorem t_X7_lacksNext {J : MJ} {w r b L m n : Nat} (hK : WalL J w r b) (hP : RouL J r L) (hB : BufL J b) (hM : MemL J m n) (d_KP : w + 1 ≤ r ∨ r + 2 ≤ w) (d_KB : w + 1 ≤ b ∨ b + 3 ≤ w) (d_KV : w + 1 ≤ m ∨ m + 12 ≤ w) (d_PB : r + 2 ≤ b ∨ b + 3 ≤ r) (d_PV : r + 2 ≤ m ∨ m + 12 ≤ r) (d_BV : b + 3 ≤ m ∨ m + 12 ≤ b) (I : MI) : M_X7_lacksNext [mR (some w), mR (some m)] (I, J) = some (some (mI (q_X7_lacksNext L (vw 1 I w) (vw 2 I r) (vw 3 I b) (vw 12 I m))), (I, J)) := by
  have h := s_X7_lacksNext hK hP hB hM d_KP d_KB d_KV d_PB d_PV d_BV I (vw 1 I w) (vw 2 I r) (vw 3 I b) (vw 12 I m)
  simp only [pt_vw] at h
  exact h
theorem t_X7_goOn {J : MJ} {w r b L n m : Nat} (hK : WalL J w r b) (hP : RouL J r L) (hB : BufL J b) (hN : NodL J n) (hM : MemL J m n) (d_KP : w + 1 ≤ r ∨ r + 2 ≤ w) (d_KB : w + 1 ≤ b ∨ b + 3 ≤ w) (d_KU : w + 1 ≤ n ∨ n + 6 ≤ w) (d_KV : w + 1 ≤ m ∨ m + 12 ≤ w) (d_PB : r + 2 ≤ b ∨ b + 3 ≤ r) (d_PU : r + 2 ≤ n ∨ n + 6 ≤ r) (d_PV : r + 2 ≤ m ∨ m + 12 ≤ r) (d_BU : b + 3 ≤ n ∨ n + 6 ≤ b) (d_BV : b + 3 ≤ m ∨ m + 12 ≤ b) (d_UV : n + 6 ≤ m ∨ m + 12 ≤ n) (I : MI) : M_X7_goOn [mR (some w), mR (some m)] (I, J) = some (some (mI (q_X7_goOn L (vw 1 I w) (vw 2 I r) (vw 3 I b) (vw 6 I n) (vw 12 I m))), (pt (pt (pt I w (gK_X7_goOn L (vw 1 I w) (vw 2 I r) (vw 3 I b) (vw 6 I n) (vw 12 I m))) b (gB_X7_goOn L (vw 1 I w) (vw 2 I r) (vw 3 I b) (vw 6 I n) (vw 12 I m))) m (gV_X7_goOn L (vw 1 I w) (vw 2 I r) (vw 3 I b) (vw 6 I n) (vw 12 I m)), J)) := by
  have h := s_X7_goOn hK hP hB hN hM d_KP d_KB d_KU d_KV d_PB d_PU d_PV d_BU d_BV d_UV I (vw 1 I w) (vw 2 I r) (vw 3 I b) (vw 6 I n) (vw 12 I m)
  simp only [pt_vw, pt_k1 d_KP, pt_k2 d_KU d_BU] at h
  exact h
theorem t_X7_start {J : MJ} {r2 L2 w r b L m n : Nat} (hP2 : RouL J r2 L2) (hK : WalL J w r b) (hP : RouL J r L) (hB : BufL J b) (hM : MemL J m n) (d_P2K : r2 + 2 ≤ w ∨ w + 1 ≤ r2) (d_P2P : r2 + 2 ≤ r ∨ r + 2 ≤ r2) (d_P2B : r2 + 2 ≤ b ∨ b + 3 ≤ r2) (d_P2V : r2 + 2 ≤ m ∨ m + 12 ≤ r2) (d_KP : w + 1 ≤ r ∨ r + 2 ≤ w) (d_KB : w + 1 ≤ b ∨ b + 3 ≤ w) (d_KV : w + 1 ≤ m ∨ m + 12 ≤ w) (d_PB : r + 2 ≤ b ∨ b + 3 ≤ r) (d_PV : r + 2 ≤ m ∨ m + 12 ≤ r) (d_BV : b + 3 ≤ m ∨ m + 12 ≤ b) (I : MI) : M_X7_start [mR (some w), mR (some r2), mR (some m)] (I, J) = some (none, (pt (pt (pt (pt I w (gK_X7_start L2 L (vw 2 I r2) (vw 1 I w) (vw 2 I r) (vw 3 I b) (vw 12 I m))) r (gP_X7_start L2 L (vw 2 I r2) (vw 1 I w) (vw 2 I r) (vw 3 I b) (vw 12 I m))) b (gB_X7_start L2 L (vw 2 I r2) (vw 1 I w) (vw 2 I r) (vw 3 I b) (vw 12 I m))) m (gV_X7_start L2 L (vw 2 I r2) (vw 1 I w) (vw 2 I r) (vw 3 I b) (vw 12 I m)), J)) := by
  have h := s_X7_start hP2 hK hP hB hM d_P2K d_P2P d_P2B d_P2V d_KP d_KB d_KV d_PB d_PV d_BV I (vw 2 I r2) (vw 1 I w) (vw 2 I r) (vw 3 I b) (vw 12 I m)
  simp only [pt_vw] at h
  exact h
theorem t_X7_copyFrom {J : MJ} {w2 r2 b2 L2 w r b L : Nat} (hK2 : WalL J w2 r2 b2) (hP2 : RouL J r2 L2) (hB2 : BufL J b2) (hK : WalL J w r b) (hP : RouL J r L) (hB : BufL J b) (d_K2P2 : w2 + 1 ≤ r2 ∨ r2 + 2 ≤ w2) (d_K2B2 : w2 + 1 ≤ b2 ∨ b2 + 3 ≤ w2) (d_K2K : w2 + 1 ≤ w ∨ w + 1 ≤ w2) (d_K2P : w2 + 1 ≤ r ∨ r + 2 ≤ w2) (d_K2B : w2 + 1 ≤ b ∨ b + 3 ≤ w2) (d_P2B2 : r2 + 2 ≤ b2 ∨ b2 + 3 ≤ r2) (d_P2K : r2 + 2 ≤ w ∨ w + 1 ≤ r2) (d_P2P : r2 + 2 ≤ r ∨ r + 2 ≤ r2) (d_P2B : r2 + 2 ≤ b ∨ b + 3 ≤ r2) (d_B2K : b2 + 3 ≤ w ∨ w + 1 ≤ b2) (d_B2P : b2 + 3 ≤ r ∨ r + 2 ≤ b2) (d_B2B : b2 + 3 ≤ b ∨ b + 3 ≤ b2) (d_KP : w + 1 ≤ r ∨ r + 2 ≤ w) (d_KB : w + 1 ≤ b ∨ b + 3 ≤ w) (d_PB : r + 2 ≤ b ∨ b + 3 ≤ r) (I : MI) : M_X7_copyFrom [mR (some w), mR (some w2)] (I, J) = some (none, (pt (pt (pt I w (gK_X7_copyFrom L2 L (vw 1 I w2) (vw 2 I r2) (vw 3 I b2) (vw 1 I w) (vw 2 I r) (vw 3 I b))) r (gP_X7_copyFrom L2 L (vw 1 I w2) (vw 2 I r2) (vw 3 I b2) (vw 1 I w) (vw 2 I r) (vw 3 I b))) b (gB_X7_copyFrom L2 L (vw 1 I w2) (vw 2 I r2) (vw 3 I b2) (vw 1 I w) (vw 2 I r) (vw 3 I b)), J)) := by
  have h := s_X7_copyFrom hK2 hP2 hB2 hK hP hB d_K2P2 d_K2B2 d_K2K d_K2P d_K2B d_P2B2 d_P2K d_P2P d_P2B d_B2K d_B2P d_B2B d_KP d_KB d_PB I (vw 1 I w2) (vw 2 I r2) (vw 3 I b2) (vw 1 I w) (vw 2 I r) (vw 3 I b)
  simp only [pt_vw] at h
  exact h
theorem t_X4_turnAround {J : MJ} {r L : Nat} (hP : RouL J r L) (I : MI) : M_X4_turnAround [mR (some r)] (I, J) = some (none, (pt I r (gP_X4_turnAround L (vw 2 I r)), J)) := by
  have h := s_X4_turnAround hP I (vw 2 I r)
  simp only [pt_vw] at h
  exact h
theorem t_X4_endOfStep {J : MJ} {t : Nat} (hT : TapL J t) (I : MI) (x1 : Int32) (x2 : Int32) : M_X4_endOfStep [mR (some t), mI x1, mI x2] (I, J) = some (some (mI (q_X4_endOfStep (vw 2 I t) x1 x2)), (I, J)) := by
  have h := s_X4_endOfStep hT I (vw 2 I t) x1 x2
  simp only [pt_vw] at h
  exact h
theorem t_X2_addVolume {J : MJ} {n : Nat} (hN : NodL J n) (I : MI) : M_X2_addVolume [mR (some n)] (I, J) = some (some (mI (q_X2_addVolume (vw 6 I n))), (pt I n (gU_X2_addVolume (vw 6 I n)), J)) := by
  have h := s_X2_addVolume hN I (vw 6 I n)
  simp only [pt_vw] at h
  exact h
theorem t_X3_skipBlanks {J : MJ} {e n t : Nat} (hE : RdrL J e n) (hT : TapL J t) (d_EQ : e + 1 ≤ t ∨ t + 2 ≤ e) (I : MI) : M_X3_skipBlanks [mR (some e), mR (some t)] (I, J) = some (none, (pt I e (gE_X3_skipBlanks (vw 1 I e) (vw 2 I t)), J)) := by
  have h := s_X3_skipBlanks hE hT d_EQ I (vw 1 I e) (vw 2 I t)
  simp only [pt_vw, pt_k1 d_EQ] at h
  exact h
theorem t_X4_readFrom {J : MJ} {t r L : Nat} (hT : TapL J t) (hP : RouL J r L) (d_QP : t + 2 ≤ r ∨ r + 2 ≤ t) (I : MI) (x2 : Int32) (x3 : Int32) : M_X4_readFrom [mR (some r), mR (some t), mI x2, mI x3] (I, J) = some (some (mI (q_X4_readFrom L (vw 2 I t) (vw 2 I r) x2 x3)), (pt I r (gP_X4_readFrom L (vw 2 I t) (vw 2 I r) x2 x3), J)) := by
  have h := s_X4_readFrom hT hP d_QP I (vw 2 I t) (vw 2 I r) x2 x3
  simp only [pt_vw] at h
  exact h
theorem t_X8_handleAt {J : MJ} {o n m g z : Nat} (hO : WorL J o n m g z) (hH : HanL J g) (d_OH : o + 1 ≤ g ∨ g + 1 ≤ o) (I : MI) (x1 : Int32) : M_X8_handleAt [mR (some o), mI x1] (I, J) = some (some (mI (q_X8_handleAt (vw 1 I o) (vw 1 I g) x1)), (I, J)) := by
  have h := s_X8_handleAt hO hH d_OH I (vw 1 I o) (vw 1 I g) x1
  simp only [pt_vw] at h
  exact h
theorem t_X8_freeHandle {J : MJ} {o n m g z : Nat} (hO : WorL J o n m g z) (hH : HanL J g) (d_OH : o + 1 ≤ g ∨ g + 1 ≤ o) (I : MI) : M_X8_freeHandle [mR (some o)] (I, J) = some (some (mI (q_X8_freeHandle (vw 1 I o) (vw 1 I g))), (I, J)) := by
  have h := s_X8_freeHandle hO hH d_OH I (vw 1 I o) (vw 1 I g)
  simp only [pt_vw] at h
  exact h
theorem t_X8_handlesOpen {J : MJ} {o n m g z : Nat} (hO : WorL J o n m g z) (hH : HanL J g) (d_OH : o + 1 ≤ g ∨ g + 1 ≤ o) (I : MI) : M_X8_handlesOpen [mR (some o)] (I, J) = some (some (mI (q_X8_handlesOpen (vw 1 I o) (vw 1 I g))), (I, J)) := by
  have h := s_X8_handlesOpen hO hH d_OH I (vw 1 I o) (vw 1 I g)
  simp only [pt_vw] at h
  exact h
theorem t_X8_openAt {J : MJ} {o n m g z r L : Nat} (hO : WorL J o n m g z) (hH : HanL J g) (hP : RouL J r L) (hN : NodL J n) (hM : MemL J m n) (d_OH : o + 1 ≤ g ∨ g + 1 ≤ o) (d_OP : o + 1 ≤ r ∨ r + 2 ≤ o) (d_OU : o + 1 ≤ n ∨ n + 6 ≤ o) (d_OV : o + 1 ≤ m ∨ m + 12 ≤ o) (d_HP : g + 1 ≤ r ∨ r + 2 ≤ g) (d_HU : g + 1 ≤ n ∨ n + 6 ≤ g) (d_HV : g + 1 ≤ m ∨ m + 12 ≤ g) (d_PU : r + 2 ≤ n ∨ n + 6 ≤ r) (d_PV : r + 2 ≤ m ∨ m + 12 ≤ r) (d_UV : n + 6 ≤ m ∨ m + 12 ≤ n) (I : MI) : M_X8_openAt [mR (some o), mR (some r)] (I, J) = some (some (mI (q_X8_openAt L (vw 1 I o) (vw 1 I g) (vw 2 I r) (vw 6 I n) (vw 12 I m))), (pt (pt I g (gH_X8_openAt L (vw 1 I o) (vw 1 I g) (vw 2 I r) (vw 6 I n) (vw 12 I m))) m (gV_X8_openAt L (vw 1 I o) (vw 1 I g) (vw 2 I r) (vw 6 I n) (vw 12 I m)), J)) := by
  have h := s_X8_openAt hO hH hP hN hM d_OH d_OP d_OU d_OV d_HP d_HU d_HV d_PU d_PV d_UV I (vw 1 I o) (vw 1 I g) (vw 2 I r) (vw 6 I n) (vw 12 I m)
  simp only [pt_vw, pt_k1 d_HP, pt_k1 d_HU] at h
  exact h
theorem t_X8_closeHandle {J : MJ} {o n m g z : Nat} (hO : WorL J o n m g z) (hH : HanL J g) (hM : MemL J m n) (d_OH : o + 1 ≤ g ∨ g + 1 ≤ o) (d_OV : o + 1 ≤ m ∨ m + 12 ≤ o) (d_HV : g + 1 ≤ m ∨ m + 12 ≤ g) (I : MI) (x1 : Int32) : M_X8_closeHandle [mR (some o), mI x1] (I, J) = some (none, (pt (pt I g (gH_X8_closeHandle (vw 1 I o) (vw 1 I g) (vw 12 I m) x1)) m (gV_X8_closeHandle (vw 1 I o) (vw 1 I g) (vw 12 I m) x1), J)) := by
  have h := s_X8_closeHandle hO hH hM d_OH d_OV d_HV I (vw 1 I o) (vw 1 I g) (vw 12 I m) x1
  simp only [pt_vw] at h
  exact h
theorem t_X8_gapIn {J : MJ} {o n m g z r L : Nat} (hO : WorL J o n m g z) (hP : RouL J r L) (hN : NodL J n) (hM : MemL J m n) (d_OP : o + 1 ≤ r ∨ r + 2 ≤ o) (d_OU : o + 1 ≤ n ∨ n + 6 ≤ o) (d_OV : o + 1 ≤ m ∨ m + 12 ≤ o) (d_PU : r + 2 ≤ n ∨ n + 6 ≤ r) (d_PV : r + 2 ≤ m ∨ m + 12 ≤ r) (d_UV : n + 6 ≤ m ∨ m + 12 ≤ n) (I : MI) (x1 : Int32) : M_X8_gapIn [mR (some o), mI x1, mR (some r)] (I, J) = some (some (mI (q_X8_gapIn L (vw 1 I o) (vw 2 I r) (vw 6 I n) (vw 12 I m) x1)), (pt I m (gV_X8_gapIn L (vw 1 I o) (vw 2 I r) (vw 6 I n) (vw 12 I m) x1), J)) := by
  have h := s_X8_gapIn hO hP hN hM d_OP d_OU d_OV d_PU d_PV d_UV I (vw 1 I o) (vw 2 I r) (vw 6 I n) (vw 12 I m) x1
  simp only [pt_vw] at h
  exact h
theorem t_X8_makeAt {J : MJ} {o n m g z r L : Nat} (hO : WorL J o n m g z) (hP : RouL J r L) (hN : NodL J n) (hM : MemL J m n) (d_OP : o + 1 ≤ r ∨ r + 2 ≤ o) (d_OU : o + 1 ≤ n ∨ n + 6 ≤ o) (d_OV : o + 1 ≤ m ∨ m + 12 ≤ o) (d_PU : r + 2 ≤ n ∨ n + 6 ≤ r) (d_PV : r + 2 ≤ m ∨ m + 12 ≤ r) (d_UV : n + 6 ≤ m ∨ m + 12 ≤ n) (I : MI) (x2 : Int32) : M_X8_makeAt [mR (some o), mR (some r), mI x2] (I, J) = some (some (mI (q_X8_makeAt L (vw 1 I o) (vw 2 I r) (vw 6 I n) (vw 12 I m) x2)), (pt (pt I n (gU_X8_makeAt L (vw 1 I o) (vw 2 I r) (vw 6 I n) (vw 12 I m) x2)) m (gV_X8_makeAt L (vw 1 I o) (vw 2 I r) (vw 6 I n) (vw 12 I m) x2), J)) := by
  have h := s_X8_makeAt hO hP hN hM d_OP d_OU d_OV d_PU d_PV d_UV I (vw 1 I o) (vw 2 I r) (vw 6 I n) (vw 12 I m) x2
  simp only [pt_vw] at h
  exact h
theorem t_X8_removeAt {J : MJ} {o n m g z r L : Nat} (hO : WorL J o n m g z) (hP : RouL J r L) (hN : NodL J n) (hM : MemL J m n) (d_OP : o + 1 ≤ r ∨ r + 2 ≤ o) (d_OU : o + 1 ≤ n ∨ n + 6 ≤ o) (d_OV : o + 1 ≤ m ∨ m + 12 ≤ o) (d_PU : r + 2 ≤ n ∨ n + 6 ≤ r) (d_PV : r + 2 ≤ m ∨ m + 12 ≤ r) (d_UV : n + 6 ≤ m ∨ m + 12 ≤ n) (I : MI) : M_X8_removeAt [mR (some o), mR (some r)] (I, J) = some (some (mI (q_X8_removeAt L (vw 1 I o) (vw 2 I r) (vw 6 I n) (vw 12 I m))), (pt (pt I n (gU_X8_removeAt L (vw 1 I o) (vw 2 I r) (vw 6 I n) (vw 12 I m))) m (gV_X8_removeAt L (vw 1 I o) (vw 2 I r) (vw 6 I n) (vw 12 I m)), J)) := by
  have h := s_X8_removeAt hO hP hN hM d_OP d_OU d_OV d_PU d_PV d_UV I (vw 1 I o) (vw 2 I r) (vw 6 I n) (vw 12 I m)
  simp only [pt_vw] at h
  exact h
theorem t_X8_canTake {J : MJ} {o n m g z : Nat} (hO : WorL J o n m g z) (hN : NodL J n) (hM : MemL J m n) (d_OU : o + 1 ≤ n ∨ n + 6 ≤ o) (d_OV : o + 1 ≤ m ∨ m + 12 ≤ o) (d_UV : n + 6 ≤ m ∨ m + 12 ≤ n) (I : MI) (x1 : Int32) (x2 : Int32) : M_X8_canTake [mR (some o), mI x1, mI x2] (I, J) = some (some (mI (q_X8_canTake (vw 1 I o) (vw 6 I n) (vw 12 I m) x1 x2)), (I, J)) := by
  have h := s_X8_canTake hO hN hM d_OU d_OV d_UV I (vw 1 I o) (vw 6 I n) (vw 12 I m) x1 x2
  simp only [pt_vw] at h
  exact h
theorem t_X8_renameTo {J : MJ} {o n m g z r2 L2 r L : Nat} (hO : WorL J o n m g z) (hP2 : RouL J r2 L2) (hP : RouL J r L) (hN : NodL J n) (hM : MemL J m n) (d_OP2 : o + 1 ≤ r2 ∨ r2 + 2 ≤ o) (d_OP : o + 1 ≤ r ∨ r + 2 ≤ o) (d_OU : o + 1 ≤ n ∨ n + 6 ≤ o) (d_OV : o + 1 ≤ m ∨ m + 12 ≤ o) (d_P2P : r2 + 2 ≤ r ∨ r + 2 ≤ r2) (d_P2U : r2 + 2 ≤ n ∨ n + 6 ≤ r2) (d_P2V : r2 + 2 ≤ m ∨ m + 12 ≤ r2) (d_PU : r + 2 ≤ n ∨ n + 6 ≤ r) (d_PV : r + 2 ≤ m ∨ m + 12 ≤ r) (d_UV : n + 6 ≤ m ∨ m + 12 ≤ n) (I : MI) : M_X8_renameTo [mR (some o), mR (some r), mR (some r2)] (I, J) = some (some (mI (q_X8_renameTo L2 L (vw 1 I o) (vw 2 I r2) (vw 2 I r) (vw 6 I n) (vw 12 I m))), (pt (pt I n (gU_X8_renameTo L2 L (vw 1 I o) (vw 2 I r2) (vw 2 I r) (vw 6 I n) (vw 12 I m))) m (gV_X8_renameTo L2 L (vw 1 I o) (vw 2 I r2) (vw 2 I r) (vw 6 I n) (vw 12 I m)), J)) := by
  have h := s_X8_renameTo hO hP2 hP hN hM d_OP2 d_OP d_OU d_OV d_P2P d_P2U d_P2V d_PU d_PV d_UV I (vw 1 I o) (vw 2 I r2) (vw 2 I r) (vw 6 I n) (vw 12 I m)
  simp only [pt_vw] at h
  exact h
theorem t_X8_mountAt {J : MJ} {o n m g z r L : Nat} (hO : WorL J o n m g z) (hP : RouL J r L) (hN : NodL J n) (hM : MemL J m n) (d_OP : o + 1 ≤ r ∨ r + 2 ≤ o) (d_OU : o + 1 ≤ n ∨ n + 6 ≤ o) (d_OV : o + 1 ≤ m ∨ m + 12 ≤ o) (d_PU : r + 2 ≤ n ∨ n + 6 ≤ r) (d_PV : r + 2 ≤ m ∨ m + 12 ≤ r) (d_UV : n + 6 ≤ m ∨ m + 12 ≤ n) (I : MI) (x2 : Int32) : M_X8_mountAt [mR (some o), mR (some r), mI x2] (I, J) = some (some (mI (q_X8_mountAt L (vw 1 I o) (vw 2 I r) (vw 6 I n) (vw 12 I m) x2)), (pt I m (gV_X8_mountAt L (vw 1 I o) (vw 2 I r) (vw 6 I n) (vw 12 I m) x2), J)) := by
  have h := s_X8_mountAt hO hP hN hM d_OP d_OU d_OV d_PU d_PV d_UV I (vw 1 I o) (vw 2 I r) (vw 6 I n) (vw 12 I m) x2
  simp only [pt_vw] at h
  exact h
theorem t_X8_isReachable {J : MJ} {o n m g z : Nat} (hO : WorL J o n m g z) (hN : NodL J n) (hM : MemL J m n) (d_OU : o + 1 ≤ n ∨ n + 6 ≤ o) (d_OV : o + 1 ≤ m ∨ m + 12 ≤ o) (d_UV : n + 6 ≤ m ∨ m + 12 ≤ n) (I : MI) (x1 : Int32) : M_X8_isReachable [mR (some o), mI x1] (I, J) = some (some (mI (q_X8_isReachable (vw 1 I o) (vw 6 I n) (vw 12 I m) x1)), (I, J)) := by
  have h := s_X8_isReachable hO hN hM d_OU d_OV d_UV I (vw 1 I o) (vw 6 I n) (vw 12 I m) x1
  simp only [pt_vw] at h
  exact h
theorem t_X8_mountedNodes {J : MJ} {o n m g z : Nat} (hO : WorL J o n m g z) (hN : NodL J n) (hM : MemL J m n) (d_OU : o + 1 ≤ n ∨ n + 6 ≤ o) (d_OV : o + 1 ≤ m ∨ m + 12 ≤ o) (d_UV : n + 6 ≤ m ∨ m + 12 ≤ n) (I : MI) : M_X8_mountedNodes [mR (some o)] (I, J) = some (some (mI (q_X8_mountedNodes (vw 1 I o) (vw 6 I n) (vw 12 I m))), (I, J)) := by
  have h := s_X8_mountedNodes hO hN hM d_OU d_OV d_UV I (vw 1 I o) (vw 6 I n) (vw 12 I m)
  simp only [pt_vw] at h
  exact h
theorem t_X8_mountedNode {J : MJ} {o n m g z : Nat} (hO : WorL J o n m g z) (hN : NodL J n) (hM : MemL J m n) (d_OU : o + 1 ≤ n ∨ n + 6 ≤ o) (d_OV : o + 1 ≤ m ∨ m + 12 ≤ o) (d_UV : n + 6 ≤ m ∨ m + 12 ≤ n) (I : MI) (x1 : Int32) : M_X8_mountedNode [mR (some o), mI x1] (I, J) = some (some (mI (q_X8_mountedNode (vw 1 I o) (vw 6 I n) (vw 12 I m) x1)), (I, J)) := by
  have h := s_X8_mountedNode hO hN hM d_OU d_OV d_UV I (vw 1 I o) (vw 6 I n) (vw 12 I m) x1
  simp only [pt_vw] at h
  exact h
theorem t_X8_routeTo {J : MJ} {o n m g z r L : Nat} (hO : WorL J o n m g z) (hP : RouL J r L) (hN : NodL J n) (hM : MemL J m n) (d_OP : o + 1 ≤ r ∨ r + 2 ≤ o) (d_OU : o + 1 ≤ n ∨ n + 6 ≤ o) (d_OV : o + 1 ≤ m ∨ m + 12 ≤ o) (d_PU : r + 2 ≤ n ∨ n + 6 ≤ r) (d_PV : r + 2 ≤ m ∨ m + 12 ≤ r) (d_UV : n + 6 ≤ m ∨ m + 12 ≤ n) (I : MI) (x1 : Int32) : M_X8_routeTo [mR (some o), mI x1, mR (some r)] (I, J) = some (none, (pt I r (gP_X8_routeTo L (vw 1 I o) (vw 2 I r) (vw 6 I n) (vw 12 I m) x1), J)) := by
  have h := s_X8_routeTo hO hP hN hM d_OP d_OU d_OV d_PU d_PV d_UV I (vw 1 I o) (vw 2 I r) (vw 6 I n) (vw 12 I m) x1
  simp only [pt_vw, pt_k1 d_PU, pt_k1 d_PV] at h
  exact h
theorem t_X3_fail {J : MJ} {e n : Nat} (hE : RdrL J e n) (I : MI) (x1 : Int32) (x2 : Int32) : M_X3_fail [mR (some e), mI x1, mI x2] (I, J) = some (some (mI (q_X3_fail (vw 1 I e) x1 x2)), (pt I e (gE_X3_fail (vw 1 I e) x1 x2), J)) := by
  have h := s_X3_fail hE I (vw 1 I e) x1 x2
  simp only [pt_vw] at h
  exact h
theorem t_X3_openFolder {J : MJ} {e n : Nat} (hE : RdrL J e n) (hN : NodL J n) (d_EU : e + 1 ≤ n ∨ n + 6 ≤ e) (I : MI) (x1 : Int32) : M_X3_openFolder [mR (some e), mI x1] (I, J) = some (some (mI (q_X3_openFolder (vw 1 I e) (vw 6 I n) x1)), (pt (pt I e (gE_X3_openFolder (vw 1 I e) (vw 6 I n) x1)) n (gU_X3_openFolder (vw 1 I e) (vw 6 I n) x1), J)) := by
  have h := s_X3_openFolder hE hN d_EU I (vw 1 I e) (vw 6 I n) x1
  simp only [pt_vw] at h
  exact h
theorem t_X3_readOutside {J : MJ} {e n : Nat} (hE : RdrL J e n) (hN : NodL J n) (d_EU : e + 1 ≤ n ∨ n + 6 ≤ e) (I : MI) (x1 : Int32) : M_X3_readOutside [mR (some e), mI x1] (I, J) = some (some (mI (q_X3_readOutside (vw 1 I e) (vw 6 I n) x1)), (pt (pt I e (gE_X3_readOutside (vw 1 I e) (vw 6 I n) x1)) n (gU_X3_readOutside (vw 1 I e) (vw 6 I n) x1), J)) := by
  have h := s_X3_readOutside hE hN d_EU I (vw 1 I e) (vw 6 I n) x1
  simp only [pt_vw] at h
  exact h
theorem t_X3_readItem {J : MJ} {e n t : Nat} (hE : RdrL J e n) (hT : TapL J t) (hN : NodL J n) (d_EQ : e + 1 ≤ t ∨ t + 2 ≤ e) (d_EU : e + 1 ≤ n ∨ n + 6 ≤ e) (d_QU : t + 2 ≤ n ∨ n + 6 ≤ t) (I : MI) : M_X3_readItem [mR (some e), mR (some t)] (I, J) = some (some (mI (q_X3_readItem (vw 1 I e) (vw 2 I t) (vw 6 I n))), (pt (pt I e (gE_X3_readItem (vw 1 I e) (vw 2 I t) (vw 6 I n))) n (gU_X3_readItem (vw 1 I e) (vw 2 I t) (vw 6 I n)), J)) := by
  have h := s_X3_readItem hE hT hN d_EQ d_EU d_QU I (vw 1 I e) (vw 2 I t) (vw 6 I n)
  simp only [pt_vw, pt_k1 d_EQ] at h
  exact h
theorem t_X3_readInside {J : MJ} {e n t : Nat} (hE : RdrL J e n) (hT : TapL J t) (hN : NodL J n) (d_EQ : e + 1 ≤ t ∨ t + 2 ≤ e) (d_EU : e + 1 ≤ n ∨ n + 6 ≤ e) (d_QU : t + 2 ≤ n ∨ n + 6 ≤ t) (I : MI) (x2 : Int32) : M_X3_readInside [mR (some e), mR (some t), mI x2] (I, J) = some (some (mI (q_X3_readInside (vw 1 I e) (vw 2 I t) (vw 6 I n) x2)), (pt (pt I e (gE_X3_readInside (vw 1 I e) (vw 2 I t) (vw 6 I n) x2)) n (gU_X3_readInside (vw 1 I e) (vw 2 I t) (vw 6 I n) x2), J)) := by
  have h := s_X3_readInside hE hT hN d_EQ d_EU d_QU I (vw 1 I e) (vw 2 I t) (vw 6 I n) x2
  simp only [pt_vw, pt_k1 d_EQ] at h
  exact h
theorem t_X3_readTrees {J : MJ} {e n t : Nat} (hE : RdrL J e n) (hT : TapL J t) (hN : NodL J n) (d_EQ : e + 1 ≤ t ∨ t + 2 ≤ e) (d_EU : e + 1 ≤ n ∨ n + 6 ≤ e) (d_QU : t + 2 ≤ n ∨ n + 6 ≤ t) (I : MI) : M_X3_readTrees [mR (some e), mR (some t)] (I, J) = some (some (mI (q_X3_readTrees (vw 1 I e) (vw 2 I t) (vw 6 I n))), (pt (pt I e (gE_X3_readTrees (vw 1 I e) (vw 2 I t) (vw 6 I n))) n (gU_X3_readTrees (vw 1 I e) (vw 2 I t) (vw 6 I n)), J)) := by
  have h := s_X3_readTrees hE hT hN d_EQ d_EU d_QU I (vw 1 I e) (vw 2 I t) (vw 6 I n)
  simp only [pt_vw, pt_k1 d_EQ] at h
  exact h
end
section
/-! A world's walkers, by hand. -/
def WksL (J : MJ) (z w : Nat) : Prop := ((13 ≤ (jS J z).1 ∧ (jS J z).1 ≤ 16) ∧ (jS J z).2 = 4) ∧ ∀ k, k < 4 → jR J z k = some (w + 6 * k) ∧ WalL J (w + 6 * k) (w + 6 * k + 1) (w + 6 * k + 3) ∧ RouL J (w + 6 * k + 1) 12 ∧ BufL J (w + 6 * k + 3)
theorem WksL.s {J : MJ} {z w : Nat} (h : WksL J z w) : jS J z = ((jS J z).1, 4) := by
  have := h.1.2
  rw [← this]
theorem WksL.a {J : MJ} {z w : Nat} (h : WksL J z w) (I : MI) : aln (I, J) z = some 4 := aln_ok h.s (by have := h.1.1; omega)
theorem WksL.l {J : MJ} {z w : Nat} (h : WksL J z w) (I : MI) {x : Int32} (hx : inb x 4) (hk : ix x < 4) : ldR (I, J) z x = some (some (w + 6 * ix x)) := by
  rw [ldR_ok x h.s h.1.1 hx]
  exact congrArg some (h.2 _ hk).1
theorem inb_ix {x : Int32} {n : Nat} {m : Int32} (hm : m.toInt = n) (h1 : ¬ x < 0) (h2 : ¬ m ≤ x) : ix x < n := by
  have a := i32_le.mp (Int32.not_lt.mp h1)
  have b := i32_lt.mp (Int32.not_le.mp h2)
  rw [hm] at b
  have e0 : (0 : Int32).toInt = 0 := rfl
  rw [e0] at a
  show x.toInt.toNat < n
  omega
theorem cR_s (b : Nat) (x y : Option MO) : cR (some b) x y = y := rfl
theorem cR_n (x y : Option MO) : cR none x y = x := rfl
def wz (I : MI) (w k : Nat) : Int32 := bz (I (w + 6 * k) 5)
def q_X8_walkerAt (I : MI) (w : Nat) (x : Int32) : Option Nat := if x < 0 then none else if (4 : Int32) ≤ x then none else if wz I w (ix x) = 0 then none else some (w + 6 * ix x)
theorem t_X8_walkerAt {J : MJ} {o n m g z w : Nat} (hO : WorL J o n m g z) (hW : WksL J z w) (I : MI) (x1 : Int32) : M_X8_walkerAt [mR (some o), mI x1] (I, J) = some (some (mR (q_X8_walkerAt I w x1)), (I, J)) := by
  rw [E_X8_walkerAt]
  unfold q_X8_walkerAt
  by_cases a : x1 < 0
  · rw [if_pos a, if_pos a]
  · rw [if_neg a, if_neg a, fR_ok 3 hO.k, Option.bind_some, hO.r3, Option.bind_some, hW.a, Option.bind_some]
    by_cases b : (4 : Int32) ≤ x1
    · rw [if_pos b, if_pos b]
    · rw [if_neg b, if_neg b, Option.bind_some, Option.bind_some]
      have hx := inb_ix (n := 4) rfl a b
      simp only [hW.l I (inb_of rfl a b) hx, Option.bind_some, cR_s, fZ_ok 5 (hW.2 _ hx).2.1.k]
      unfold wz
      by_cases c : bz (I (w + 6 * ix x1) 5) = 0
      · rw [if_pos c, if_pos c]
      · rw [if_neg c, if_neg c]
def f_X8_freeWalker (I : MI) (w : Nat) : Option Nat := fst? (fun k => decide (wz I w k = 0)) 0 4
def q_X8_freeWalker (I : MI) (w : Nat) : Int32 := oI (f_X8_freeWalker I w)
theorem t_X8_freeWalker {J : MJ} {o n m g z w : Nat} (hO : WorL J o n m g z) (hW : WksL J z w) (I : MI) : M_X8_freeWalker [mR (some o)] (I, J) = some (some (mI (q_X8_freeWalker I w)), (I, J)) := by
  rw [E_X8_freeWalker]
  have step := loop_find (fun k => Ev T_X8_freeWalker 2 [some (mR (some o)), some (mI (nI k))] [] (I, J)) (fun k => decide (wz I w k = 0)) (fun k => some (some (mI (nI k)), (I, J))) 4 (fun k hk => by
    have hx : ix (nI k) = k := ix_nI (by omega)
    try dsimp only
    rw [E_X8_freeWalker_2, fR_ok 3 hO.k, Option.bind_some, hO.r3, Option.bind_some, hW.a, Option.bind_some, if_neg (show ¬ (4 : Int32) ≤ nI k from nI_ge hk (by decide)), Option.bind_some, Option.bind_some]
    simp only [hW.l I (inb_nI hk (by decide)) (by rw [hx]; exact hk), Option.bind_some, cR_s, hx, fZ_ok 5 (hW.2 k hk).2.1.k, nI_1]
    show (if wz I w k = 0 then _ else _) = _
    by_cases c : wz I w k = 0
    · simp [c]
    · simp [c]) 4 0 (by omega)
  have hend : Ev T_X8_freeWalker 2 [some (mR (some o)), some (mI (nI 4))] [] (I, J) = some (some (mI (-1)), (I, J)) := by
    rw [E_X8_freeWalker_2, fR_ok 3 hO.k, Option.bind_some, hO.r3, Option.bind_some, hW.a, Option.bind_some, if_pos (show (4 : Int32) ≤ nI 4 by decide)]
  try dsimp only at step
  rw [show (nI 0) = 0 from rfl] at step
  rw [step]
  unfold q_X8_freeWalker f_X8_freeWalker
  cases fst? (fun k => decide (wz I w k = 0)) 0 4 with
  | none => exact hend
  | some j => rfl
def q_X8_walkersUnderWay (I : MI) (w : Nat) : Int32 := nI (cnt (fun k => decide (¬ wz I w k = 0)) 0 4)
theorem t_X8_walkersUnderWay {J : MJ} {o n m g z w : Nat} (hO : WorL J o n m g z) (hW : WksL J z w) (I : MI) : M_X8_walkersUnderWay [mR (some o)] (I, J) = some (some (mI (q_X8_walkersUnderWay I w)), (I, J)) := by
  rw [E_X8_walkersUnderWay]
  have step := loop_cnt (fun k c => Ev T_X8_walkersUnderWay 4 [some (mR (some o)), some (mI (nI c)), some (mI (nI k))] [] (I, J)) (fun k => decide (¬ wz I w k = 0)) 4 (fun k c hk => by
    have hx : ix (nI k) = k := ix_nI (by omega)
    try dsimp only
    rw [E_X8_walkersUnderWay_4, fR_ok 3 hO.k, Option.bind_some, hO.r3, Option.bind_some, hW.a, Option.bind_some, if_neg (show ¬ (4 : Int32) ≤ nI k from nI_ge hk (by decide)), if_pos (show kd (I, J) o = 8 from hO.k), t_X8_walkerAt hO hW I]
    simp only [Option.bind_some, asR_R]
    unfold q_X8_walkerAt
    rw [if_neg (nI_pos (by omega)), if_neg (show ¬ (4 : Int32) ≤ nI k from nI_ge hk (by decide)), hx]
    by_cases c : wz I w k = 0
    · simp [c, cR_n, nI_1]
    · simp [c, cR_s, nI_1]) 4 0 0 (by omega)
  try dsimp only at step
  rw [show (nI 0) = 0 from rfl] at step
  rw [step, E_X8_walkersUnderWay_4, fR_ok 3 hO.k, Option.bind_some, hO.r3, Option.bind_some, hW.a, Option.bind_some, if_pos (show (4 : Int32) ≤ nI 4 by decide), Nat.zero_add]
  rfl
/-- the heap when walker k has begun -/
def bgn (I : MI) (r2 L2 w m k : Nat) : MI := pt (pt (pt (pt I (w + 6 * k) (gK_X7_start L2 12 (vw 2 I r2) (vw 1 I (w + 6 * k)) (vw 2 I (w + 6 * k + 1)) (vw 3 I (w + 6 * k + 3)) (vw 12 I m))) (w + 6 * k + 1) (gP_X7_start L2 12 (vw 2 I r2) (vw 1 I (w + 6 * k)) (vw 2 I (w + 6 * k + 1)) (vw 3 I (w + 6 * k + 3)) (vw 12 I m))) (w + 6 * k + 3) (gB_X7_start L2 12 (vw 2 I r2) (vw 1 I (w + 6 * k)) (vw 2 I (w + 6 * k + 1)) (vw 3 I (w + 6 * k + 3)) (vw 12 I m))) m (gV_X7_start L2 12 (vw 2 I r2) (vw 1 I (w + 6 * k)) (vw 2 I (w + 6 * k + 1)) (vw 3 I (w + 6 * k + 3)) (vw 12 I m))
def h_X8_beginWalk (I : MI) (r2 L2 w m : Nat) : MI := match f_X8_freeWalker I w with
  | some k => bgn I r2 L2 w m k
  | none => I
theorem t_X8_beginWalk {J : MJ} {o n m g z w r2 L2 : Nat} (hO : WorL J o n m g z) (hW : WksL J z w) (hM : MemL J m n) (hP2 : RouL J r2 L2) (d1 : r2 + 2 ≤ w ∨ w + 24 ≤ r2) (d2 : r2 + 2 ≤ m ∨ m + 12 ≤ r2) (d3 : w + 24 ≤ m ∨ m + 12 ≤ w) (I : MI) : M_X8_beginWalk [mR (some o), mR (some r2)] (I, J) = some (some (mI (q_X8_freeWalker I w)), (h_X8_beginWalk I r2 L2 w m, J)) := by
  rw [E_X8_beginWalk, if_pos (show kd (I, J) o = 8 from hO.k), t_X8_freeWalker hO hW I]
  simp only [Option.bind_some, asI_I]
  unfold q_X8_freeWalker h_X8_beginWalk
  cases hf : f_X8_freeWalker I w with
  | none =>
    show (if (-1 : Int32) < 0 then _ else _) = _
    rw [if_pos (by decide)]
    rfl
  | some k =>
    have hk : k < 4 := by
      have := fst_some hf
      omega
    have hx : ix (nI k) = k := ix_nI (by omega)
    have hq := hW.2 k hk
    have e : oI (some k) = nI k := rfl
    rw [e, if_neg (nI_pos (by omega))]
    simp only [fR_ok 3 hO.k, fR_ok 1 hO.k, hO.r3, hO.r1, Option.bind_some, hW.a, if_neg (show ¬ (4 : Int32) ≤ nI k from nI_ge hk (by decide)), hW.l I (inb_nI hk (by decide)) (by rw [hx]; exact hk), cR_s, hx]
    rw [if_pos (show kd (I, J) (w + 6 * k) = 7 from hq.2.1.k), t_X7_start hP2 hq.2.1 hq.2.2.1 hq.2.2.2 hM (by omega) (by omega) (by omega) d2 (by omega) (by omega) (by omega) (by omega) (by omega) (by omega) I]
    rfl
/-- the heap when a world has been started with other nodes -/
def h_X8_startWith (I : MI) (n2 n m g w : Nat) : MI := itr (fun k I => up2 I (w + 6 * k) 5 0) 0 4 (fun x y => if x = g ∧ y < 6 then (-1) else (pt (pt I n (gU_X2_copyFrom (vw 6 I n2) (vw 6 I n))) m (gV_X1_startAnew (gU_X2_copyFrom (vw 6 I n2) (vw 6 I n)) (vw 12 I m))) x y)
theorem t_X8_startWith {J : MJ} {o n m g z w n2 : Nat} (hO : WorL J o n m g z) (hH : HanL J g) (hW : WksL J z w) (hN2 : NodL J n2) (hN : NodL J n) (hM : MemL J m n) (d1 : n2 + 6 ≤ n ∨ n + 6 ≤ n2) (d2 : n + 6 ≤ m ∨ m + 12 ≤ n) (I : MI) : M_X8_startWith [mR (some o), mR (some n2)] (I, J) = some (none, (h_X8_startWith I n2 n m g w, J)) := by
  rw [E_X8_startWith]
  simp only [fR_ok 0 hO.k, fR_ok 1 hO.k, fR_ok 2 hO.k, hO.r0, hO.r1, hO.r2, Option.bind_some]
  rw [if_pos (show kd (I, J) n = 2 from hN.k), t_X2_copyFrom hN2 hN d1 I]
  simp only [Option.bind_some, asV_n, fR_ok 1 hO.k, fR_ok 2 hO.k, hO.r1, hO.r2]
  rw [if_pos (show kd (pt I n (gU_X2_copyFrom (vw 6 I n2) (vw 6 I n)), J) m = 1 from hM.k), t_X1_startAnew hN hM d2, vw_pt, vw_out I _ (Or.symm d2)]
  simp only [Option.bind_some, asV_n, fR_ok 2 hO.k, hO.r2]
  rw [fill_s hH.s0 (by decide)]
  simp only [Option.bind_some, asV_n]
  unfold h_X8_startWith
  generalize (fun x y => if x = g ∧ y < 6 then (-1 : Int32) else (pt (pt I n (gU_X2_copyFrom (vw 6 I n2) (vw 6 I n))) m (gV_X1_startAnew (gU_X2_copyFrom (vw 6 I n2) (vw 6 I n)) (vw 12 I m))) x y) = I1
  have step := loop_all (fun k I => Ev T_X8_startWith 25 [some (mR (some o)), none, some (mI (nI k))] [] (I, J)) (fun k I => up2 I (w + 6 * k) 5 0) 4 I1 (fun k I hk => by
    have hx : ix (nI k) = k := ix_nI (by omega)
    try dsimp only
    rw [E_X8_startWith_25]
    simp only [fR_ok 3 hO.k, hO.r3, Option.bind_some, hW.a, if_neg (show ¬ (4 : Int32) ≤ nI k from nI_ge hk (by decide)), hW.l I (inb_nI hk (by decide)) (by rw [hx]; exact hk), cR_s, hx, wZ_ok 5 0 (hW.2 k hk).2.1.k (Or.inl rfl), nI_1])
  try dsimp only at step
  rw [show (nI 0) = 0 from rfl] at step
  rw [step, E_X8_startWith_25]
  simp only [fR_ok 3 hO.k, hO.r3, Option.bind_some, hW.a]
  rw [if_pos (show (4 : Int32) ≤ nI 4 by decide)]
/-- walker k of one world as that of another -/
def cpw (w2 w k : Nat) (I : MI) : MI := pt (pt (pt I (w + 6 * k) (gK_X7_copyFrom 12 12 (vw 1 I (w2 + 6 * k)) (vw 2 I (w2 + 6 * k + 1)) (vw 3 I (w2 + 6 * k + 3)) (vw 1 I (w + 6 * k)) (vw 2 I (w + 6 * k + 1)) (vw 3 I (w + 6 * k + 3)))) (w + 6 * k + 1) (gP_X7_copyFrom 12 12 (vw 1 I (w2 + 6 * k)) (vw 2 I (w2 + 6 * k + 1)) (vw 3 I (w2 + 6 * k + 3)) (vw 1 I (w + 6 * k)) (vw 2 I (w + 6 * k + 1)) (vw 3 I (w + 6 * k + 3)))) (w + 6 * k + 3) (gB_X7_copyFrom 12 12 (vw 1 I (w2 + 6 * k)) (vw 2 I (w2 + 6 * k + 1)) (vw 3 I (w2 + 6 * k + 3)) (vw 1 I (w + 6 * k)) (vw 2 I (w + 6 * k + 1)) (vw 3 I (w + 6 * k + 3)))
/-- the heap when a world has become as another -/
def h_X8_copyFrom (I : MI) (n2 m2 g2 w2 n m g w : Nat) : MI := itr (cpw w2 w) 0 4 (fun x y => if x = g ∧ y < 6 then I g2 y else (pt (pt I n (gU_X2_copyFrom (vw 6 I n2) (vw 6 I n))) m (gV_X1_copyFrom (vw 12 I m2) (vw 12 I m))) x y)
theorem t_X8_copyFrom {J : MJ} {o2 n2 m2 g2 z2 w2 o n m g z w : Nat} (hO2 : WorL J o2 n2 m2 g2 z2) (hH2 : HanL J g2) (hW2 : WksL J z2 w2) (hN2 : NodL J n2) (hM2 : MemL J m2 n2) (hO : WorL J o n m g z) (hH : HanL J g) (hW : WksL J z w) (hN : NodL J n) (hM : MemL J m n)
    (d1 : n2 + 6 ≤ n ∨ n + 6 ≤ n2) (d2 : m2 + 12 ≤ m ∨ m + 12 ≤ m2) (d3 : n + 6 ≤ m ∨ m + 12 ≤ n) (d4 : n + 6 ≤ m2 ∨ m2 + 12 ≤ n) (d5 : n + 6 ≤ g2 ∨ g2 + 1 ≤ n) (d6 : m + 12 ≤ g2 ∨ g2 + 1 ≤ m) (d7 : g2 ≠ g) (d8 : w2 + 24 ≤ w ∨ w + 24 ≤ w2) (I : MI) : M_X8_copyFrom [mR (some o), mR (some o2)] (I, J) = some (none, (h_X8_copyFrom I n2 m2 g2 w2 n m g w, J)) := by
  rw [E_X8_copyFrom]
  simp only [fR_ok 0 hO.k, fR_ok 0 hO2.k, hO.r0, hO2.r0, Option.bind_some]
  rw [if_pos (show kd (I, J) n = 2 from hN.k), t_X2_copyFrom hN2 hN d1 I]
  simp only [Option.bind_some, asV_n, fR_ok 1 hO.k, fR_ok 1 hO2.k, hO.r1, hO2.r1]
  rw [if_pos (show kd (pt I n (gU_X2_copyFrom (vw 6 I n2) (vw 6 I n)), J) m = 1 from hM.k), t_X1_copyFrom hM2 hM d2, vw_out I _ (Or.symm d4), vw_out I _ (Or.symm d3)]
  simp only [Option.bind_some, asV_n, fR_ok 2 hO.k, fR_ok 2 hO2.k, hO.r2, hO2.r2]
  rw [cpy_ok hH2.s0 hH.s0 (by decide) d7 6 rfl]
  simp only [Option.bind_some]
  have e : ∀ y, (pt (pt I n (gU_X2_copyFrom (vw 6 I n2) (vw 6 I n))) m (gV_X1_copyFrom (vw 12 I m2) (vw 12 I m))) g2 y = I g2 y := by
    intro y
    rw [pt_out (x := g2) (a := m) (by omega), pt_out (x := g2) (a := n) (by omega)]
  simp only [e]
  unfold h_X8_copyFrom
  generalize (fun x y => if x = g ∧ y < 6 then I g2 y else (pt (pt I n (gU_X2_copyFrom (vw 6 I n2) (vw 6 I n))) m (gV_X1_copyFrom (vw 12 I m2) (vw 12 I m))) x y) = I1
  have step := loop_all (fun k I => Ev T_X8_copyFrom 39 [some (mR (some o)), some (mR (some o2)), some (mI (nI k))] [] (I, J)) (cpw w2 w) 4 I1 (fun k I hk => by
    have hx : ix (nI k) = k := ix_nI (by omega)
    have q := hW.2 k hk
    have q2 := hW2.2 k hk
    try dsimp only
    rw [E_X8_copyFrom_39]
    simp only [fR_ok 3 hO.k, hO.r3, fR_ok 3 hO2.k, hO2.r3, Option.bind_some, hW.a, hW2.a, if_neg (show ¬ (4 : Int32) ≤ nI k from nI_ge hk (by decide)), hW.l I (inb_nI hk (by decide)) (by rw [hx]; exact hk), hW2.l I (inb_nI hk (by decide)) (by rw [hx]; exact hk), cR_s, hx, nI_1]
    rw [if_pos (show kd (I, J) (w + 6 * k) = 7 from q.2.1.k), t_X7_copyFrom q2.2.1 q2.2.2.1 q2.2.2.2 q.2.1 q.2.2.1 q.2.2.2 (by omega) (by omega) (by omega) (by omega) (by omega) (by omega) (by omega) (by omega) (by omega) (by omega) (by omega) (by omega) (by omega) (by omega) (by omega) I]
    rfl)
  try dsimp only at step
  rw [show (nI 0) = 0 from rfl] at step
  rw [step, E_X8_copyFrom_39]
  simp only [fR_ok 3 hO.k, hO.r3, Option.bind_some, hW.a]
  rw [if_pos (show (4 : Int32) ≤ nI 4 by decide)]
end

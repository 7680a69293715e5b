/-! By hand: blanks skipped, a path read. -/
def lp_X3_skipBlanks (Q : RouV) : Nat → OneV → OneV
  | 0, E => E
  | f + 1, E => if (Q 0 1) ≤ (E 0 3) then E else if (q_X5_at Q (E 0 3)) = 32 then lp_X3_skipBlanks Q f (uv E 0 3 ((E 0 3) + 1)) else if (q_X5_at Q (E 0 3)) = 10 then lp_X3_skipBlanks Q f (uv E 0 3 ((E 0 3) + 1)) else E
def gE_X3_skipBlanks (E : OneV) (Q : RouV) : OneV := lp_X3_skipBlanks Q ((Q 0 1).toInt - (E 0 3).toInt).toNat E
theorem lr_X3_skipBlanks {J : MJ} {e n t : Nat} (hE : RdrL J e n) (hT : TapL J t) (d_EQ : e + 1 ≤ t ∨ t + 2 ≤ e) (X : MI) (Q : RouV) : ∀ (f : Nat) (E : OneV), ((Q 0 1).toInt - (E 0 3).toInt).toNat ≤ f → M_X3_skipBlanks [mR (some e), mR (some t)] (pt (pt X e E) t Q, J) = some (none, (pt (pt X e (lp_X3_skipBlanks Q f E)) t Q, J)) := by
  intro f
  induction f with
  | zero =>
    intro E h
    rw [P_X3_skipBlanks hE hT d_EQ, if_pos (by rw [i32_le]; omega)]
    rfl
  | succ f ih =>
    intro E h
    rw [P_X3_skipBlanks hE hT d_EQ]
    unfold lp_X3_skipBlanks
    by_cases a : (Q 0 1) ≤ (E 0 3)
    · rw [if_pos a, if_pos a]
    · rw [if_neg a, if_neg a]
      have key := ih (uv E 0 3 ((E 0 3) + 1)) (by
        rw [uv_s]
        have := i32_succ (Int32.not_le.mp a)
        omega)
      by_cases b : (q_X5_at Q (E 0 3)) = 32
      · rw [if_pos b, if_pos b]
        exact key
      · rw [if_neg b, if_neg b]
        by_cases c : (q_X5_at Q (E 0 3)) = 10
        · rw [if_pos c, if_pos c]
          exact key
        · rw [if_neg c, if_neg c]
theorem s_X3_skipBlanks {J : MJ} {e n t : Nat} (hE : RdrL J e n) (hT : TapL J t) (d_EQ : e + 1 ≤ t ∨ t + 2 ≤ e) (X : MI) (E : OneV) (Q : RouV) : M_X3_skipBlanks [mR (some e), mR (some t)] (pt (pt X e E) t Q, J) = some (none, (pt (pt X e (gE_X3_skipBlanks E Q)) t Q, J)) :=
  lr_X3_skipBlanks hE hT d_EQ X Q _ E (Nat.le_refl _)
def lp_X4_readFrom (L : Nat) (Q : RouV) (x3 : Int32) : Nat → Int32 → RouV → Int32 × RouV
  | 0, _, P => (if (P 0 1) ≤ 0 then 0 else 1, P)
  | f + 1, x4, P => if x3 ≤ x4 then (if (P 0 1) ≤ 0 then 0 else 1, P) else if (q_X5_at Q x4) = 47 then (if (q_X9_stepBetween Q (x4 + 1) (q_X4_endOfStep Q (x4 + 1) x3)) = 0 then (0, P) else if (q_X4_push L P (q_X9_stepBetween Q (x4 + 1) (q_X4_endOfStep Q (x4 + 1) x3))) = 0 then (0, gP_X4_push L P (q_X9_stepBetween Q (x4 + 1) (q_X4_endOfStep Q (x4 + 1) x3))) else lp_X4_readFrom L Q x3 f (q_X4_endOfStep Q (x4 + 1) x3) (gP_X4_push L P (q_X9_stepBetween Q (x4 + 1) (q_X4_endOfStep Q (x4 + 1) x3)))) else (0, P)
def o_X4_readFrom (L : Nat) (Q P : RouV) (x2 x3 : Int32) : Int32 × RouV := if (x3 - x2) = 1 then (if (q_X5_at Q x2) = 47 then 1 else 0, uv P 0 1 0) else lp_X4_readFrom L Q x3 (L + 1) x2 (uv P 0 1 0)
def q_X4_readFrom (L : Nat) (Q P : RouV) (x2 x3 : Int32) : Int32 := (o_X4_readFrom L Q P x2 x3).1
def gP_X4_readFrom (L : Nat) (Q P : RouV) (x2 x3 : Int32) : RouV := (o_X4_readFrom L Q P x2 x3).2
theorem lr_X4_readFrom {J : MJ} {t r L : Nat} (hT : TapL J t) (hP : RouL J r L) (d_QP : t + 2 ≤ r ∨ r + 2 ≤ t) (X : MI) (Q : RouV) (x3 : Int32) : ∀ (f k : Nat) (x4 : Int32) (P : RouV), k + f = L + 1 → Ev T_X4_readFrom 34 [some (mR (some r)), some (mR (some t)), none, some (mI x3), some (mI x4), some (mI (nI k)), none, none] [] (pt (pt X t Q) r P, J) = some (some (mI (lp_X4_readFrom L Q x3 f x4 P).1), (pt (pt X t Q) r (lp_X4_readFrom L Q x3 f x4 P).2, J)) := by
  intro f
  have hb := hP.b
  induction f with
  | zero =>
    intro k x4 P hk
    have hk : k = L + 1 := by omega
    subst hk
    rw [P_X4_readFrom_34 hT hP d_QP, if_pos (by rw [i32_lt, nI_toInt (by omega), nI_toInt (by omega)]; omega)]
    unfold lp_X4_readFrom
    by_cases a : (P 0 1) ≤ 0
    · simp only [if_pos a]
    · simp only [if_neg a]
  | succ f ih =>
    intro k x4 P hk
    rw [P_X4_readFrom_34 hT hP d_QP, if_neg (by rw [i32_lt, nI_toInt (by omega), nI_toInt (by omega)]; omega)]
    unfold lp_X4_readFrom
    by_cases a : x3 ≤ x4
    · simp only [if_pos a]
      by_cases a : (P 0 1) ≤ 0
      · simp only [if_pos a]
      · simp only [if_neg a]
    · simp only [if_neg a]
      by_cases b : (q_X5_at Q x4) = 47
      · simp only [if_pos b]
        by_cases c : (q_X9_stepBetween Q (x4 + 1) (q_X4_endOfStep Q (x4 + 1) x3)) = 0
        · simp only [if_pos c]
        · simp only [if_neg c]
          by_cases d : (q_X4_push L P (q_X9_stepBetween Q (x4 + 1) (q_X4_endOfStep Q (x4 + 1) x3))) = 0
          · simp only [if_pos d]
          · simp only [if_neg d]
            rw [nI_1]
            exact ih (k + 1) _ _ (by omega)
      · simp only [if_neg b]
theorem s_X4_readFrom {J : MJ} {t r L : Nat} (hT : TapL J t) (hP : RouL J r L) (d_QP : t + 2 ≤ r ∨ r + 2 ≤ t) (X : MI) (Q : RouV) (P : RouV) (x2 : Int32) (x3 : Int32) : M_X4_readFrom [mR (some r), mR (some t), mI x2, mI x3] (pt (pt X t Q) r P, J) = some (some (mI (q_X4_readFrom L Q P x2 x3)), (pt (pt X t Q) r (gP_X4_readFrom L Q P x2 x3), J)) := by
  rw [P_X4_readFrom hT hP d_QP]
  unfold q_X4_readFrom gP_X4_readFrom o_X4_readFrom
  by_cases a : (x3 - x2) = 1
  · simp only [if_pos a]
    by_cases b : (q_X5_at Q x2) = 47
    · simp only [if_pos b]
    · simp only [if_neg b]
  · simp only [if_neg a]
    exact lr_X4_readFrom hT hP d_QP X Q x3 (L + 1) 0 x2 _ (by omega)

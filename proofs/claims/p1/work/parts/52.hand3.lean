/-! By hand: an item read. -/
def e_X3_readItem (E : OneV) (Q : RouV) (U : NodV) (x2 : Int32) : Int32 × OneV × NodV := if (q_X9_isLetter (q_X5_at Q (E 0 3))) = 0 then (if (q_X2_find U (E 0 5) (q_X9_nameBetween Q x2 (E 0 3))) = ((-1)) then (if (q_X5_at Q ((gE_X3_skipBlanks E Q) 0 3)) = 123 then (if (q_X3_openFolder (gE_X3_skipBlanks E Q) (gU_X2_addIn U (E 0 5) (q_X9_nameBetween Q x2 (E 0 3)) 1) (q_X2_addIn U (E 0 5) (q_X9_nameBetween Q x2 (E 0 3)) 1)) = 0 then 0 else 1, gE_X3_openFolder (gE_X3_skipBlanks E Q) (gU_X2_addIn U (E 0 5) (q_X9_nameBetween Q x2 (E 0 3)) 1) (q_X2_addIn U (E 0 5) (q_X9_nameBetween Q x2 (E 0 3)) 1), gU_X3_openFolder (gE_X3_skipBlanks E Q) (gU_X2_addIn U (E 0 5) (q_X9_nameBetween Q x2 (E 0 3)) 1) (q_X2_addIn U (E 0 5) (q_X9_nameBetween Q x2 (E 0 3)) 1)) else (1, gE_X3_skipBlanks E Q, gU_X2_addIn U (E 0 5) (q_X9_nameBetween Q x2 (E 0 3)) 1)) else (q_X3_fail E 3 x2, gE_X3_fail E 3 x2, U)) else (q_X3_fail E 1 (E 0 3), gE_X3_fail E 1 (E 0 3), U)
def lp_X3_readItem (Q : RouV) (U : NodV) (x2 : Int32) : Nat → OneV → Int32 × OneV × NodV
  | 0, E => e_X3_readItem E Q U x2
  | f + 1, E => if (q_X9_isLetter (q_X5_at Q (E 0 3))) = 0 then e_X3_readItem E Q U x2 else lp_X3_readItem Q U x2 f (uv E 0 3 ((E 0 3) + 1))
def o_X3_readItem (E : OneV) (Q : RouV) (U : NodV) : Int32 × OneV × NodV := if (U 0 5) < 40 then lp_X3_readItem Q U (E 0 3) 4 E else (q_X3_fail E 5 (E 0 3), gE_X3_fail E 5 (E 0 3), U)
def q_X3_readItem (E : OneV) (Q : RouV) (U : NodV) : Int32 := (o_X3_readItem E Q U).1
def gE_X3_readItem (E : OneV) (Q : RouV) (U : NodV) : OneV := (o_X3_readItem E Q U).2.1
def gU_X3_readItem (E : OneV) (Q : RouV) (U : NodV) : NodV := (o_X3_readItem E Q U).2.2
theorem lr_X3_readItem {J : MJ} {e n t : Nat} (hE : RdrL J e n) (hT : TapL J t) (hN : NodL J n) (d_EQ : e + 1 ≤ t ∨ t + 2 ≤ e) (d_EU : e + 1 ≤ n ∨ n + 6 ≤ e) (d_QU : t + 2 ≤ n ∨ n + 6 ≤ t) (X : MI) (Q : RouV) (U : NodV) (x2 : Int32) : ∀ (f k : Nat) (E : OneV), k + f = 4 → E 0 3 - x2 = nI k → Ev T_X3_readItem 24 [some (mR (some e)), some (mR (some t)), some (mI x2), none, none] [] (pt (pt (pt X e E) t Q) n U, J) = some (some (mI (lp_X3_readItem Q U x2 f E).1), (pt (pt (pt X e (lp_X3_readItem Q U x2 f E).2.1) t Q) n (lp_X3_readItem Q U x2 f E).2.2, J)) := by
  have fin : ∀ (E : OneV) (R : Option MO), ((if (q_X9_isLetter (q_X5_at Q (E 0 3))) = 0 then (if (q_X2_find U (E 0 5) (q_X9_nameBetween Q x2 (E 0 3))) = ((-1)) then (if (q_X5_at Q ((gE_X3_skipBlanks E Q) 0 3)) = 123 then (if (q_X3_openFolder (gE_X3_skipBlanks E Q) (gU_X2_addIn U (E 0 5) (q_X9_nameBetween Q x2 (E 0 3)) 1) (q_X2_addIn U (E 0 5) (q_X9_nameBetween Q x2 (E 0 3)) 1)) = 0 then some (some (mI 0), (pt (pt (pt X e (gE_X3_openFolder (gE_X3_skipBlanks E Q) (gU_X2_addIn U (E 0 5) (q_X9_nameBetween Q x2 (E 0 3)) 1) (q_X2_addIn U (E 0 5) (q_X9_nameBetween Q x2 (E 0 3)) 1))) t Q) n (gU_X3_openFolder (gE_X3_skipBlanks E Q) (gU_X2_addIn U (E 0 5) (q_X9_nameBetween Q x2 (E 0 3)) 1) (q_X2_addIn U (E 0 5) (q_X9_nameBetween Q x2 (E 0 3)) 1)), J)) else some (some (mI 1), (pt (pt (pt X e (gE_X3_openFolder (gE_X3_skipBlanks E Q) (gU_X2_addIn U (E 0 5) (q_X9_nameBetween Q x2 (E 0 3)) 1) (q_X2_addIn U (E 0 5) (q_X9_nameBetween Q x2 (E 0 3)) 1))) t Q) n (gU_X3_openFolder (gE_X3_skipBlanks E Q) (gU_X2_addIn U (E 0 5) (q_X9_nameBetween Q x2 (E 0 3)) 1) (q_X2_addIn U (E 0 5) (q_X9_nameBetween Q x2 (E 0 3)) 1)), J))) else some (some (mI 1), (pt (pt (pt X e (gE_X3_skipBlanks E Q)) t Q) n (gU_X2_addIn U (E 0 5) (q_X9_nameBetween Q x2 (E 0 3)) 1), J))) else some (some (mI (q_X3_fail E 3 x2)), (pt (pt (pt X e (gE_X3_fail E 3 x2)) t Q) n U, J))) else R)) = if (q_X9_isLetter (q_X5_at Q (E 0 3))) = 0 then some (some (mI (e_X3_readItem E Q U x2).1), (pt (pt (pt X e (e_X3_readItem E Q U x2).2.1) t Q) n (e_X3_readItem E Q U x2).2.2, J)) else R := by
    intro E R
    by_cases a : (q_X9_isLetter (q_X5_at Q (E 0 3))) = 0
    · rw [if_pos a, if_pos a]
      unfold e_X3_readItem
      rw [if_pos a]
      by_cases b : (q_X2_find U (E 0 5) (q_X9_nameBetween Q x2 (E 0 3))) = ((-1))
      · rw [if_pos b, if_pos b]
        by_cases c : (q_X5_at Q ((gE_X3_skipBlanks E Q) 0 3)) = 123
        · rw [if_pos c, if_pos c]
          by_cases d : (q_X3_openFolder (gE_X3_skipBlanks E Q) (gU_X2_addIn U (E 0 5) (q_X9_nameBetween Q x2 (E 0 3)) 1) (q_X2_addIn U (E 0 5) (q_X9_nameBetween Q x2 (E 0 3)) 1)) = 0
          · simp only [if_pos d]
          · simp only [if_neg d]
        · rw [if_neg c, if_neg c]
      · rw [if_neg b, if_neg b]
    · rw [if_neg a, if_neg a]
  intro f
  induction f with
  | zero =>
    intro k E hk hd
    have hk : k = 4 := by omega
    subst hk
    rw [P_X3_readItem_24 hE hT hN d_EQ d_EU d_QU, if_pos (by rw [hd]; exact Int32.le_refl _), fin]
    by_cases a : (q_X9_isLetter (q_X5_at Q (E 0 3))) = 0
    · rw [if_pos a]
      rfl
    · rw [if_neg a]
      unfold lp_X3_readItem e_X3_readItem
      rw [if_neg a]
  | succ f ih =>
    intro k E hk hd
    rw [P_X3_readItem_24 hE hT hN d_EQ d_EU d_QU, if_neg (by rw [hd]; exact nI_ge (show k < 4 by omega) (by decide)), fin]
    unfold lp_X3_readItem
    by_cases a : (q_X9_isLetter (q_X5_at Q (E 0 3))) = 0
    · rw [if_pos a, if_pos a]
    · rw [if_neg a, if_neg a]
      apply ih (k + 1) _ (by omega)
      rw [uv_s, ← nI_1, ← hd, Int32.sub_eq_add_neg, Int32.sub_eq_add_neg, Int32.add_assoc, Int32.add_comm 1, ← Int32.add_assoc]
theorem s_X3_readItem {J : MJ} {e n t : Nat} (hE : RdrL J e n) (hT : TapL J t) (hN : NodL J n) (d_EQ : e + 1 ≤ t ∨ t + 2 ≤ e) (d_EU : e + 1 ≤ n ∨ n + 6 ≤ e) (d_QU : t + 2 ≤ n ∨ n + 6 ≤ t) (X : MI) (E : OneV) (Q : RouV) (U : NodV) : M_X3_readItem [mR (some e), mR (some t)] (pt (pt (pt X e E) t Q) n U, J) = some (some (mI (q_X3_readItem E Q U)), (pt (pt (pt X e (gE_X3_readItem E Q U)) t Q) n (gU_X3_readItem E Q U), J)) := by
  rw [P_X3_readItem hE hT hN d_EQ d_EU d_QU]
  unfold q_X3_readItem gE_X3_readItem gU_X3_readItem o_X3_readItem
  by_cases a : (U 0 5) < 40
  · simp only [if_pos a]
    exact lr_X3_readItem hE hT hN d_EQ d_EU d_QU X Q U (E 0 3) 4 0 E rfl (Int32.sub_self _)
  · simp only [if_neg a]
theorem z_X3_readItem (E : OneV) (Q : RouV) (U : NodV) : q_X3_readItem E Q U = 0 ∨ q_X3_readItem E Q U = 1 := by
  have fin : ∀ (E : OneV) (x2 : Int32), (e_X3_readItem E Q U x2).1 = 0 ∨ (e_X3_readItem E Q U x2).1 = 1 := by
    intro E x2
    unfold e_X3_readItem
    split
    · split
      · split
        · dsimp only
          split
          · exact Or.inl rfl
          · exact Or.inr rfl
        · exact Or.inr rfl
      · exact z_X3_fail E 3 x2
    · exact z_X3_fail E 1 (E 0 3)
  have lp : ∀ (f : Nat) (E : OneV) (x2 : Int32), (lp_X3_readItem Q U x2 f E).1 = 0 ∨ (lp_X3_readItem Q U x2 f E).1 = 1 := by
    intro f
    induction f with
    | zero => intro E x2; exact fin E x2
    | succ f ih =>
      intro E x2
      unfold lp_X3_readItem
      split
      · exact fin E x2
      · exact ih _ _
  unfold q_X3_readItem o_X3_readItem
  split
  · exact lp _ _ _
  · exact z_X3_fail E 5 (E 0 3)

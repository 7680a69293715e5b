/-! By hand: routes turned around, the end of a step, a volume added. -/
theorem i32_succ {x y : Int32} (h : x < y) : (x + 1).toInt = x.toInt + 1 := by
  have h1 := Int32.lt_iff_toInt_lt.mp h
  have h2 := Int32.toInt_lt y
  have h3 := Int32.le_toInt x
  rw [Int32.toInt_add]
  have e1 : (1 : Int32).toInt = 1 := rfl
  rw [e1]
  apply Int.bmod_eq_of_le <;> omega
theorem i32_pred {x y : Int32} (h : y < x) : (x + (-1)).toInt = x.toInt - 1 := by
  have h1 := Int32.lt_iff_toInt_lt.mp h
  have h2 := Int32.toInt_lt x
  have h3 := Int32.le_toInt y
  rw [Int32.toInt_add]
  have e1 : (-1 : Int32).toInt = -1 := rfl
  rw [e1]
  apply Int.bmod_eq_of_le <;> omega
theorem i32_le {x y : Int32} : x ≤ y ↔ x.toInt ≤ y.toInt := Int32.le_iff_toInt_le
theorem i32_lt {x y : Int32} : x < y ↔ x.toInt < y.toInt := Int32.lt_iff_toInt_lt
def lp_X4_turnAround (L : Nat) : Nat → Int32 → Int32 → RouV → RouV
  | 0, _, _, P => P
  | f + 1, x1, x2, P => if x2 ≤ x1 then P else if (nI L) ≤ x2 then P else lp_X4_turnAround L f (x1 + 1) (x2 + (-1)) (uv (uv P 1 (ix x1) (P 1 (ix x2))) 1 (ix x2) (P 1 (ix x1)))
def gP_X4_turnAround (L : Nat) (P : RouV) : RouV := lp_X4_turnAround L (((P 0 1) - 1).toInt).toNat 0 ((P 0 1) - 1) P
theorem turn_9 {J : MJ} {r L : Nat} (hP : RouL J r L) (X : MI) (P : RouV) (x1 x2 : Int32) (h1 : ¬ x1 < 0) : Ev T_X4_turnAround 9 [some (mR (some r)), some (mI x1), some (mI x2), none] [] (pt X r P, J) = (if x2 ≤ x1 then some (none, (pt X r P, J)) else (if (nI L) ≤ x2 then some (none, (pt X r P, J)) else Ev T_X4_turnAround 9 [some (mR (some r)), some (mI (x1 + 1)), some (mI (x2 + (-1))), none] [] (pt X r (uv (uv P 1 (ix x1) (P 1 (ix x2))) 1 (ix x2) (P 1 (ix x1))), J))) := by
  by_cases a : x2 ≤ x1
  · rw [if_pos a, E_X4_turnAround_9, if_neg h1, if_pos a]
  · rw [if_neg a]
    by_cases b : (nI L) ≤ x2
    · rw [if_pos b, E_X4_turnAround_9, if_neg h1, if_neg a, fR_ok 0 hP.k, Option.bind_some, hP.r1, Option.bind_some, aln_ok hP.s1 (by decide), Option.bind_some, if_pos b]
    · rw [if_neg b]
      have hL : (nI L).toInt = L := nI_toInt (by have := hP.b; omega)
      have a' := i32_lt.mp (Int32.not_le.mp a)
      have b' := i32_lt.mp (Int32.not_le.mp b)
      have h1' := i32_le.mp (Int32.not_lt.mp h1)
      have e0 : (0 : Int32).toInt = 0 := rfl
      rw [e0] at h1'
      have h2 : ¬ x2 < 0 := by
        rw [i32_lt, e0]; omega
      have h3 : inb x1 L := inb_of hL h1 (by rw [i32_le, hL]; omega)
      rw [P_X4_turnAround_9 hP X P x1 x2 h1 h2 h3, if_neg a, if_neg b]
theorem lr_X4_turnAround {J : MJ} {r L : Nat} (hP : RouL J r L) (X : MI) : ∀ (f : Nat) (x1 x2 : Int32) (P : RouV), ¬ x1 < 0 → x2.toInt ≤ x1.toInt + f → Ev T_X4_turnAround 9 [some (mR (some r)), some (mI x1), some (mI x2), none] [] (pt X r P, J) = some (none, (pt X r (lp_X4_turnAround L f x1 x2 P), J)) := by
  intro f
  induction f with
  | zero =>
    intro x1 x2 P h1 h2
    rw [turn_9 hP X P x1 x2 h1, if_pos (by rw [i32_le]; omega)]
    rfl
  | succ f ih =>
    intro x1 x2 P h1 h2
    rw [turn_9 hP X P x1 x2 h1]
    unfold lp_X4_turnAround
    by_cases a : x2 ≤ x1
    · rw [if_pos a, if_pos a]
    · rw [if_neg a, if_neg a]
      by_cases b : (nI L) ≤ x2
      · rw [if_pos b, if_pos b]
      · rw [if_neg b, if_neg b]
        have a1 := Int32.not_le.mp a
        have s1 := i32_succ a1
        have s2 := i32_pred a1
        apply ih
        · intro h
          have h' := i32_lt.mp h
          have e0 : (0 : Int32).toInt = 0 := rfl
          have h1' := i32_le.mp (Int32.not_lt.mp h1)
          rw [e0] at h1' h'
          omega
        · omega
theorem s_X4_turnAround {J : MJ} {r L : Nat} (hP : RouL J r L) (X : MI) (P : RouV) : M_X4_turnAround [mR (some r)] (pt X r P, J) = some (none, (pt X r (gP_X4_turnAround L P), J)) := by
  rw [P_X4_turnAround hP]
  exact lr_X4_turnAround hP X _ 0 _ P (by decide) (by have e0 : (0 : Int32).toInt = 0 := rfl; rw [e0]; omega)
def lp_X4_endOfStep (Q : RouV) (x2 : Int32) : Nat → Int32 → Int32
  | 0, x => x
  | f + 1, x => if x2 ≤ x then x else if (q_X5_at Q x) = 47 then x else lp_X4_endOfStep Q x2 f (x + 1)
def q_X4_endOfStep (Q : RouV) (x1 x2 : Int32) : Int32 := lp_X4_endOfStep Q x2 (x2.toInt - x1.toInt).toNat x1
theorem lr_X4_endOfStep {J : MJ} {t : Nat} (hT : TapL J t) (X : MI) (Q : RouV) (x2 : Int32) : ∀ (f : Nat) (x : Int32), (x2.toInt - x.toInt).toNat ≤ f → Ev T_X4_endOfStep 2 [some (mR (some t)), none, some (mI x2), some (mI x)] [] (pt X t Q, J) = some (some (mI (lp_X4_endOfStep Q x2 f x)), (pt X t Q, J)) := by
  intro f
  induction f with
  | zero =>
    intro x h
    rw [P_X4_endOfStep_2 hT, if_pos (by rw [i32_le]; omega)]
    rfl
  | succ f ih =>
    intro x h
    rw [P_X4_endOfStep_2 hT]
    unfold lp_X4_endOfStep
    by_cases a : x2 ≤ x
    · rw [if_pos a, if_pos a]
    · rw [if_neg a, if_neg a]
      by_cases b : (q_X5_at Q x) = 47
      · rw [if_pos b, if_pos b]
      · rw [if_neg b, if_neg b]
        apply ih
        have := i32_succ (Int32.not_le.mp a)
        omega
theorem s_X4_endOfStep {J : MJ} {t : Nat} (hT : TapL J t) (X : MI) (Q : RouV) (x1 x2 : Int32) : M_X4_endOfStep [mR (some t), mI x1, mI x2] (pt X t Q, J) = some (some (mI (q_X4_endOfStep Q x1 x2)), (pt X t Q, J)) := by
  rw [P_X4_endOfStep hT]
  exact lr_X4_endOfStep hT X Q x2 _ x1 (Nat.le_refl _)
def q_X2_addVolume (U : NodV) : Int32 := if (U 0 6) < 0 then 0 else if (3 : Int32) ≤ (U 0 6) then 0 else if (U 0 5) < 60 then 1 else 0
def gU_X2_addVolume (U : NodV) : NodV := if (U 0 6) < 0 then U else if (3 : Int32) ≤ (U 0 6) then U else if (U 0 5) < 60 then uv (gU_X2_put (uv U 0 6 ((U 0 6) + 1)) (U 0 6) (-1) 0 2) 5 (ix (U 0 6)) (q_X2_put (uv U 0 6 ((U 0 6) + 1)) (U 0 6) (-1) 0 2) else U
theorem s_X2_addVolume {J : MJ} {n : Nat} (hN : NodL J n) (X : MI) (U : NodV) : M_X2_addVolume [mR (some n)] (pt X n U, J) = some (some (mI (q_X2_addVolume U)), (pt X n (gU_X2_addVolume U), J)) := by
  rw [E_X2_addVolume, fI_ok 6 hN.k, Option.bind_some, p6_0]
  unfold q_X2_addVolume gU_X2_addVolume
  by_cases a : (U 0 6) < 0
  · simp only [if_pos a]; rfl
  · simp only [if_neg a]
    rw [Option.bind_some]
    by_cases b : (3 : Int32) ≤ (U 0 6)
    · simp only [if_pos b]; rfl
    · simp only [if_neg b]
      rw [fI_ok 5 hN.k, Option.bind_some, p6_0]
      by_cases c : (U 0 5) < 60
      · simp only [if_pos c]
        have e1 : (U 0 6) + 1 - 1 = U 0 6 := Int32.add_sub_cancel _ _
        rw [Option.bind_some, wI_ok 6 _ hN.k, Option.bind_some, u6_0, fR_ok 4 hN.k, Option.bind_some, fI_ok 6 hN.k, Option.bind_some, p6_0, uv_s, hN.r5]
        rw [Option.bind_some, e1]
        rw [if_pos (show kd (pt X n (uv U 0 6 ((U 0 6) + 1)), J) n = 2 from hN.k), s_X2_put hN]
        simp only [Option.bind_some, asI_I]
        rw [st_ok _ _ hN.s5 (inb3 a b), Option.bind_some, u6_5]
        simp
      · simp only [if_neg c]; rfl

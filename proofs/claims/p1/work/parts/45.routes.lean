/-! Routes, names in a text, walks. Written by gen/run3.py. -/
def gP_X4_clear (L : Nat) (P : RouV) : RouV := uv P 0 1 0
theorem s_X4_clear {J : MJ} {r L : Nat} (hP : RouL J r L) (X : MI) (P : RouV) : M_X4_clear [mR (some r)] (pt X r P, J) = some (none, (pt X r (gP_X4_clear L P), J)) := by
  generalize hR : some (none, (pt X r (gP_X4_clear L P), J)) = R
  rw [E_X4_clear]
  unfold gP_X4_clear at hR
  try rewrite [wI_ok 1 _ hP.k]
  try rewrite [Option.bind_some]
  try rewrite [u2_0]
  exact hR
def q_X4_stepAt (L : Nat) (P : RouV) (x1 : Int32) : Int32 := (if x1 < 0 then 0 else (if (P 0 1) ≤ x1 then 0 else (if (nI L) ≤ x1 then 0 else P 1 (ix x1))))
theorem s_X4_stepAt {J : MJ} {r L : Nat} (hP : RouL J r L) (X : MI) (P : RouV) (x1 : Int32) : M_X4_stepAt [mR (some r), mI x1] (pt X r P, J) = some (some (mI (q_X4_stepAt L P x1)), (pt X r P, J)) := by
  generalize hR : some (some (mI (q_X4_stepAt L P x1)), (pt X r P, J)) = R
  rw [E_X4_stepAt]
  unfold q_X4_stepAt at hR
  by_cases h1 : x1 < 0
  · rewrite [if_pos h1]; simp only [if_pos h1] at hR
    exact hR
  · rewrite [if_neg h1]; simp only [if_neg h1] at hR
    try rewrite [fI_ok 1 hP.k]
    try rewrite [Option.bind_some]
    try rewrite [p2_0]
    by_cases h2 : (P 0 1) ≤ x1
    · rewrite [if_pos h2]; simp only [if_pos h2] at hR
      exact hR
    · rewrite [if_neg h2]; simp only [if_neg h2] at hR
      try rewrite [fR_ok 0 hP.k]
      try rewrite [Option.bind_some]
      try rewrite [hP.r1]
      try simp only [Option.bind_some]
      try rewrite [aln_ok hP.s1 (by decide)]
      try rewrite [Option.bind_some]
      by_cases h3 : (nI L) ≤ x1
      · rewrite [if_pos h3]; simp only [if_pos h3] at hR
        exact hR
      · rewrite [if_neg h3]; simp only [if_neg h3] at hR
        try rewrite [fR_ok 0 hP.k]
        try rewrite [Option.bind_some]
        try rewrite [hP.r1]
        try simp only [Option.bind_some]
        try rewrite [ld_ok _ hP.s1 (inb_of (nI_toInt (by have := hP.b; omega)) h1 h3)]
        try rewrite [Option.bind_some]
        try rewrite [p2_1]
        exact hR
def q_X4_push (L : Nat) (P : RouV) (x1 : Int32) : Int32 := (if (P 0 1) < 0 then 0 else (if (P 0 1) < (nI L) then 1 else 0))
def gP_X4_push (L : Nat) (P : RouV) (x1 : Int32) : RouV := (if (P 0 1) < 0 then P else (if (P 0 1) < (nI L) then uv (uv P 1 (ix (P 0 1)) x1) 0 1 ((P 0 1) + 1) else P))
theorem s_X4_push {J : MJ} {r L : Nat} (hP : RouL J r L) (X : MI) (P : RouV) (x1 : Int32) : M_X4_push [mR (some r), mI x1] (pt X r P, J) = some (some (mI (q_X4_push L P x1)), (pt X r (gP_X4_push L P x1), J)) := by
  generalize hR : some (some (mI (q_X4_push L P x1)), (pt X r (gP_X4_push L P x1), J)) = R
  rw [E_X4_push]
  unfold q_X4_push gP_X4_push at hR
  try rewrite [fI_ok 1 hP.k]
  try rewrite [Option.bind_some]
  try rewrite [p2_0]
  by_cases h1 : (P 0 1) < 0
  · rewrite [if_pos h1]; simp only [if_pos h1] at hR
    first | exact hR | (simp only [if_pos (show (0 : Int32) = 0 ∨ (0 : Int32) = 1 by decide), if_pos (show (1 : Int32) = 0 ∨ (1 : Int32) = 1 by decide)]; exact hR) | (simp; exact hR)
  · rewrite [if_neg h1]; simp only [if_neg h1] at hR
    try rewrite [fI_ok 1 hP.k]
    try rewrite [Option.bind_some]
    try rewrite [p2_0]
    try rewrite [fR_ok 0 hP.k]
    try rewrite [Option.bind_some]
    try rewrite [hP.r1]
    try simp only [Option.bind_some]
    try rewrite [aln_ok hP.s1 (by decide)]
    try rewrite [Option.bind_some]
    by_cases h2 : (P 0 1) < (nI L)
    · rewrite [if_pos h2]; simp only [if_pos h2] at hR
      try rewrite [fR_ok 0 hP.k]
      try rewrite [Option.bind_some]
      try rewrite [hP.r1]
      try rewrite [fI_ok 1 hP.k]
      try rewrite [Option.bind_some]
      try rewrite [p2_0]
      try simp only [Option.bind_some]
      try rewrite [st_ok _ _ hP.s1 (inb_of (nI_toInt (by have := hP.b; omega)) h1 (Int32.not_le.mpr h2))]
      try rewrite [Option.bind_some]
      try rewrite [u2_1]
      try rewrite [fI_ok 1 hP.k]
      try rewrite [Option.bind_some]
      try rewrite [p2_0]
      try rewrite [uv_k _ _ _ _ _ (by decide)]
      try rewrite [wI_ok 1 _ hP.k]
      try rewrite [Option.bind_some]
      try rewrite [u2_0]
      first | exact hR | (simp only [if_pos (show (0 : Int32) = 0 ∨ (0 : Int32) = 1 by decide), if_pos (show (1 : Int32) = 0 ∨ (1 : Int32) = 1 by decide)]; exact hR) | (simp; exact hR)
    · rewrite [if_neg h2]; simp only [if_neg h2] at hR
      first | exact hR | (simp only [if_pos (show (0 : Int32) = 0 ∨ (0 : Int32) = 1 by decide), if_pos (show (1 : Int32) = 0 ∨ (1 : Int32) = 1 by decide)]; exact hR) | (simp; exact hR)
def q_X4_last (L : Nat) (P : RouV) : Int32 := q_X4_stepAt L P ((P 0 1) - 1)
theorem s_X4_last {J : MJ} {r L : Nat} (hP : RouL J r L) (X : MI) (P : RouV) : M_X4_last [mR (some r)] (pt X r P, J) = some (some (mI (q_X4_last L P)), (pt X r P, J)) := by
  generalize hR : some (some (mI (q_X4_last L P)), (pt X r P, J)) = R
  rw [E_X4_last]
  unfold q_X4_last at hR
  try rewrite [fI_ok 1 hP.k]
  try rewrite [Option.bind_some]
  try rewrite [p2_0]
  try simp only [Option.bind_some]
  rewrite [if_pos (show kd (pt X r P, J) r = 4 from hP.k)]
  rewrite [s_X4_stepAt hP]
  simp only [Option.bind_some, asI_I]
  exact hR
theorem P_X4_copyFrom {J : MJ} {r2 L2 r L : Nat} (hP2 : RouL J r2 L2) (hP : RouL J r L) (d_P2P : r2 + 2 ≤ r ∨ r + 2 ≤ r2) (X : MI) (P2 : RouV) (P : RouV) : M_X4_copyFrom [mR (some r), mR (some r2)] (pt (pt X r2 P2) r P, J) = Ev T_X4_copyFrom 7 [some (mR (some r)), some (mR (some r2)), some (mI 0)] [] (pt (pt X r2 P2) r (uv P 0 1 0), J) := by
  generalize hR : Ev T_X4_copyFrom 7 [some (mR (some r)), some (mR (some r2)), some (mI 0)] [] (pt (pt X r2 P2) r (uv P 0 1 0), J) = R
  rw [E_X4_copyFrom]
  try rewrite [wI_ok 1 _ hP.k]
  try rewrite [Option.bind_some]
  try rewrite [u2_0]
  exact hR
theorem P_X4_copyFrom_7 {J : MJ} {r2 L2 r L : Nat} (hP2 : RouL J r2 L2) (hP : RouL J r L) (d_P2P : r2 + 2 ≤ r ∨ r + 2 ≤ r2) (X : MI) (P2 : RouV) (P : RouV) (x2 : Int32) : Ev T_X4_copyFrom 7 [some (mR (some r)), some (mR (some r2)), some (mI x2)] [] (pt (pt X r2 P2) r P, J) = (if (P2 0 1) ≤ x2 then some (none, (pt (pt X r2 P2) r P, J)) else Ev T_X4_copyFrom 7 [some (mR (some r)), some (mR (some r2)), some (mI (x2 + 1))] [] (pt (pt X r2 P2) r (gP_X4_push L P (q_X4_stepAt L2 P2 x2)), J)) := by
  generalize hR : (if (P2 0 1) ≤ x2 then some (none, (pt (pt X r2 P2) r P, J)) else Ev T_X4_copyFrom 7 [some (mR (some r)), some (mR (some r2)), some (mI (x2 + 1))] [] (pt (pt X r2 P2) r (gP_X4_push L P (q_X4_stepAt L2 P2 x2)), J)) = R
  rw [E_X4_copyFrom_7]
  try rewrite [fI_ok 1 hP2.k]
  try rewrite [Option.bind_some]
  try rewrite [pt_out (x := r2) (a := r) (by have := d_P2P; omega)]
  try rewrite [p2_0]
  by_cases h1 : (P2 0 1) ≤ x2
  · rewrite [if_pos h1]; simp only [if_pos h1] at hR
    exact hR
  · rewrite [if_neg h1]; simp only [if_neg h1] at hR
    try simp only [Option.bind_some]
    rewrite [if_pos (show kd (pt (pt X r2 P2) r P, J) r2 = 4 from hP2.k)]
    rw [pt_comm X P2 P d_P2P]
    rw [s_X4_stepAt hP2]
    rw [pt_comm X P P2 (Or.symm d_P2P)]
    simp only [Option.bind_some, asI_I]
    try simp only [Option.bind_some]
    rewrite [if_pos (show kd (pt (pt X r2 P2) r P, J) r = 4 from hP.k)]
    rewrite [s_X4_push hP]
    simp only [Option.bind_some, asI_I]
    exact hR
def lp_X4_copyFrom_7 (L2 : Nat) (L : Nat) (P2 : RouV) : Nat → Nat → RouV → RouV
  | 0, k, P => (P)
  | nn + 1, k, P => lp_X4_copyFrom_7 L2 L P2 nn (k + 1) (gP_X4_push L P (q_X4_stepAt L2 P2 (nI k)))
theorem lr_X4_copyFrom_7 {J : MJ} {r2 L2 r L : Nat} (hP2 : RouL J r2 L2) (hP : RouL J r L) (d_P2P : r2 + 2 ≤ r ∨ r + 2 ≤ r2) (X : MI) (P2 : RouV) : ∀ (nn k : Nat) (P : RouV), k + nn = (ix (P2 0 1)) → Ev T_X4_copyFrom 7 [some (mR (some r)), some (mR (some r2)), some (mI (nI k))] [] (pt (pt X r2 P2) r P, J) = some (none, (pt (pt X r2 P2) r ((lp_X4_copyFrom_7 L2 L P2 nn k P)), J)) := by
  intro nn
  induction nn with
  | zero =>
    intro k P hk
    have hk : k = (ix (P2 0 1)) := by omega
    subst hk
    generalize hR : some (none, (pt (pt X r2 P2) r ((lp_X4_copyFrom_7 L2 L P2 0 (ix (P2 0 1)) P)), J)) = R
    rw [lp_X4_copyFrom_7] at hR
    rw [P_X4_copyFrom_7 hP2 hP d_P2P _ _ _ _, if_pos ((le_nI (ix_lt (P2 0 1))).mpr (Nat.le_refl _))]
    exact hR
  | succ nn ih =>
    intro k P hk
    generalize hR : some (none, (pt (pt X r2 P2) r ((lp_X4_copyFrom_7 L2 L P2 (nn + 1) k P)), J)) = R
    rw [lp_X4_copyFrom_7] at hR
    rw [P_X4_copyFrom_7 hP2 hP d_P2P _ _ _ _, if_neg (fun h => by have h2 := (le_nI (by have := ix_lt (P2 0 1); omega)).mp h; omega)]
    try rw [ix_nI (by have := ix_lt (P2 0 1); omega)]
    rw [nI_1 k]
    exact (ih (k + 1) _ (by omega)).trans hR
def o_X4_copyFrom (L2 : Nat) (L : Nat) (P2 : RouV) (P : RouV)  : RouV := lp_X4_copyFrom_7 L2 L P2 (ix ((P2 0 1))) 0 (uv P 0 1 0)
def gP_X4_copyFrom (L2 : Nat) (L : Nat) (P2 : RouV) (P : RouV)  : RouV := (o_X4_copyFrom L2 L P2 P)
theorem s_X4_copyFrom {J : MJ} {r2 L2 r L : Nat} (hP2 : RouL J r2 L2) (hP : RouL J r L) (d_P2P : r2 + 2 ≤ r ∨ r + 2 ≤ r2) (X : MI) (P2 : RouV) (P : RouV)  : M_X4_copyFrom [mR (some r), mR (some r2)] (pt (pt X r2 P2) r P, J) = some (none, (pt (pt X r2 P2) r ((gP_X4_copyFrom L2 L P2 P)), J)) := by
  generalize hR : some (none, (pt (pt X r2 P2) r ((gP_X4_copyFrom L2 L P2 P)), J)) = R
  rw [P_X4_copyFrom hP2 hP d_P2P]
  unfold gP_X4_copyFrom o_X4_copyFrom at hR
  exact (lr_X4_copyFrom_7 hP2 hP d_P2P X _ _ 0 _ (by omega)).trans hR
theorem P_X4_turnAround {J : MJ} {r L : Nat} (hP : RouL J r L) (X : MI) (P : RouV) : M_X4_turnAround [mR (some r)] (pt X r P, J) = Ev T_X4_turnAround 9 [some (mR (some r)), some (mI 0), some (mI ((P 0 1) - 1)), none] [] (pt X r P, J) := by
  generalize hR : Ev T_X4_turnAround 9 [some (mR (some r)), some (mI 0), some (mI ((P 0 1) - 1)), none] [] (pt X r P, J) = R
  rw [E_X4_turnAround]
  try rewrite [fI_ok 1 hP.k]
  try rewrite [Option.bind_some]
  try rewrite [p2_0]
  exact hR
theorem P_X4_turnAround_9 {J : MJ} {r L : Nat} (hP : RouL J r L) (X : MI) (P : RouV) (x1 : Int32) (x2 : Int32) (h_x1 : ¬ x1 < 0) (h_x2 : ¬ x2 < 0) (hb_x1 : inb x1 L) : Ev T_X4_turnAround 9 [some (mR (some r)), some (mI x1), some (mI x2), none] [] (pt X r P, J) = (if x2 ≤ x1 then some (none, (pt X r P, J)) else (if (nI L) ≤ x2 then some (none, (pt X r P, J)) else Ev T_X4_turnAround 9 [some (mR (some r)), some (mI (x1 + 1)), some (mI (x2 + (-1))), none] [] (pt X r (uv (uv P 1 (ix x1) (P 1 (ix x2))) 1 (ix x2) (P 1 (ix x1))), J))) := by
  generalize hR : (if x2 ≤ x1 then some (none, (pt X r P, J)) else (if (nI L) ≤ x2 then some (none, (pt X r P, J)) else Ev T_X4_turnAround 9 [some (mR (some r)), some (mI (x1 + 1)), some (mI (x2 + (-1))), none] [] (pt X r (uv (uv P 1 (ix x1) (P 1 (ix x2))) 1 (ix x2) (P 1 (ix x1))), J))) = R
  rw [E_X4_turnAround_9]
  try rewrite [if_neg h_x1]
  by_cases h1 : x2 ≤ x1
  · rewrite [if_pos h1]; simp only [if_pos h1] at hR
    exact hR
  · rewrite [if_neg h1]; simp only [if_neg h1] at hR
    try rewrite [fR_ok 0 hP.k]
    try rewrite [Option.bind_some]
    try rewrite [hP.r1]
    try simp only [Option.bind_some]
    try rewrite [aln_ok hP.s1 (by decide)]
    try rewrite [Option.bind_some]
    by_cases h2 : (nI L) ≤ x2
    · rewrite [if_pos h2]; simp only [if_pos h2] at hR
      exact hR
    · rewrite [if_neg h2]; simp only [if_neg h2] at hR
      try rewrite [fR_ok 0 hP.k]
      try rewrite [Option.bind_some]
      try rewrite [hP.r1]
      try simp only [Option.bind_some]
      try rewrite [ld_ok _ hP.s1 hb_x1]
      try rewrite [Option.bind_some]
      try rewrite [p2_1]
      try rewrite [fR_ok 0 hP.k]
      try rewrite [Option.bind_some]
      try rewrite [hP.r1]
      try rewrite [fR_ok 0 hP.k]
      try rewrite [Option.bind_some]
      try rewrite [hP.r1]
      try simp only [Option.bind_some]
      try rewrite [ld_ok _ hP.s1 (inb_of (nI_toInt (by have := hP.b; omega)) h_x2 h2)]
      try rewrite [Option.bind_some]
      try rewrite [p2_1]
      try simp only [Option.bind_some]
      try rewrite [st_ok _ _ hP.s1 hb_x1]
      try rewrite [Option.bind_some]
      try rewrite [u2_1]
      try rewrite [fR_ok 0 hP.k]
      try rewrite [Option.bind_some]
      try rewrite [hP.r1]
      try simp only [Option.bind_some]
      try rewrite [st_ok _ _ hP.s1 (inb_of (nI_toInt (by have := hP.b; omega)) h_x2 h2)]
      try rewrite [Option.bind_some]
      try rewrite [u2_1]
      exact hR
def q_X9_isLetter (x0 : Int32) : Int32 := (if x0 < 97 then 0 else (if (122 : Int32) < x0 then 0 else 1))
theorem s_X9_isLetter {J : MJ} (X : MI) (x0 : Int32) : M_X9_isLetter [mI x0] (X, J) = some (some (mI (q_X9_isLetter x0)), (X, J)) := by
  generalize hR : some (some (mI (q_X9_isLetter x0)), (X, J)) = R
  rw [E_X9_isLetter]
  unfold q_X9_isLetter at hR
  by_cases h1 : x0 < 97
  · rewrite [if_pos h1]; simp only [if_pos h1] at hR
    first | exact hR | (simp only [if_pos (show (0 : Int32) = 0 ∨ (0 : Int32) = 1 by decide), if_pos (show (1 : Int32) = 0 ∨ (1 : Int32) = 1 by decide)]; exact hR) | (simp; exact hR)
  · rewrite [if_neg h1]; simp only [if_neg h1] at hR
    by_cases h2 : (122 : Int32) < x0
    · rewrite [if_pos h2]; simp only [if_pos h2] at hR
      first | exact hR | (simp only [if_pos (show (0 : Int32) = 0 ∨ (0 : Int32) = 1 by decide), if_pos (show (1 : Int32) = 0 ∨ (1 : Int32) = 1 by decide)]; exact hR) | (simp; exact hR)
    · rewrite [if_neg h2]; simp only [if_neg h2] at hR
      first | exact hR | (simp only [if_pos (show (0 : Int32) = 0 ∨ (0 : Int32) = 1 by decide), if_pos (show (1 : Int32) = 0 ∨ (1 : Int32) = 1 by decide)]; exact hR) | (simp; exact hR)
def q_X9_letterOf (x0 : Int32) (x1 : Int32) : Int32 := (x0 >>> ((5 * x1) &&& 31)) &&& 31
theorem s_X9_letterOf {J : MJ} (X : MI) (x0 : Int32) (x1 : Int32) : M_X9_letterOf [mI x0, mI x1] (X, J) = some (some (mI (q_X9_letterOf x0 x1)), (X, J)) := by
  generalize hR : some (some (mI (q_X9_letterOf x0 x1)), (X, J)) = R
  rw [E_X9_letterOf]
  unfold q_X9_letterOf at hR
  exact hR
theorem P_X9_nameBetween {J : MJ} {t : Nat} (hT : TapL J t) (X : MI) (Q : RouV) (x1 : Int32) (x2 : Int32) : M_X9_nameBetween [mR (some t), mI x1, mI x2] (pt X t Q, J) = (if (x2 - x1) < 1 then some (some (mI 0), (pt X t Q, J)) else (if (x2 - x1) ≤ 4 then Ev T_X9_nameBetween 22 [some (mR (some t)), some (mI x1), none, some (mI (x2 - x1)), some (mI 0), some (mI 0), none] [] (pt X t Q, J) else some (some (mI 0), (pt X t Q, J)))) := by
  generalize hR : (if (x2 - x1) < 1 then some (some (mI 0), (pt X t Q, J)) else (if (x2 - x1) ≤ 4 then Ev T_X9_nameBetween 22 [some (mR (some t)), some (mI x1), none, some (mI (x2 - x1)), some (mI 0), some (mI 0), none] [] (pt X t Q, J) else some (some (mI 0), (pt X t Q, J)))) = R
  rw [E_X9_nameBetween]
  by_cases h1 : (x2 - x1) < 1
  · rewrite [if_pos h1]; simp only [if_pos h1] at hR
    exact hR
  · rewrite [if_neg h1]; simp only [if_neg h1] at hR
    by_cases h2 : (x2 - x1) ≤ 4
    · rewrite [if_pos h2]; simp only [if_pos h2] at hR
      exact hR
    · rewrite [if_neg h2]; simp only [if_neg h2] at hR
      exact hR
theorem P_X9_nameBetween_22 {J : MJ} {t : Nat} (hT : TapL J t) (X : MI) (Q : RouV) (x1 : Int32) (x3 : Int32) (x4 : Int32) (x5 : Int32) : Ev T_X9_nameBetween 22 [some (mR (some t)), some (mI x1), none, some (mI x3), some (mI x4), some (mI x5), none] [] (pt X t Q, J) = (if x3 ≤ x5 then some (some (mI x4), (pt X t Q, J)) else (if (q_X9_isLetter (q_X5_at Q (x1 + x5))) = 0 then some (some (mI 0), (pt X t Q, J)) else Ev T_X9_nameBetween 22 [some (mR (some t)), some (mI x1), none, some (mI x3), some (mI (x4 ||| ((((q_X5_at Q (x1 + x5)) - 97) + 1) <<< ((5 * x5) &&& 31)))), some (mI (x5 + 1)), none] [] (pt X t Q, J))) := by
  generalize hR : (if x3 ≤ x5 then some (some (mI x4), (pt X t Q, J)) else (if (q_X9_isLetter (q_X5_at Q (x1 + x5))) = 0 then some (some (mI 0), (pt X t Q, J)) else Ev T_X9_nameBetween 22 [some (mR (some t)), some (mI x1), none, some (mI x3), some (mI (x4 ||| ((((q_X5_at Q (x1 + x5)) - 97) + 1) <<< ((5 * x5) &&& 31)))), some (mI (x5 + 1)), none] [] (pt X t Q, J))) = R
  rw [E_X9_nameBetween_22]
  by_cases h1 : x3 ≤ x5
  · rewrite [if_pos h1]; simp only [if_pos h1] at hR
    exact hR
  · rewrite [if_neg h1]; simp only [if_neg h1] at hR
    try simp only [Option.bind_some]
    rewrite [if_pos (show kd (pt X t Q, J) t = 5 from hT.k)]
    rewrite [s_X5_at hT]
    simp only [Option.bind_some, asI_I]
    try simp only [Option.bind_some]
    rewrite [s_X9_isLetter ]
    simp only [Option.bind_some, asI_I]
    by_cases h2 : (q_X9_isLetter (q_X5_at Q (x1 + x5))) = 0
    · rewrite [if_pos h2]; simp only [if_pos h2] at hR
      exact hR
    · rewrite [if_neg h2]; simp only [if_neg h2] at hR
      exact hR
def lp_X9_nameBetween_22 (Q : RouV) (x1 : Int32) (x3 : Int32) : Nat → Nat → Int32 → Int32
  | 0, k, x4 => (x4)
  | nn + 1, k, x4 => (if (q_X9_isLetter (q_X5_at Q (x1 + (nI k)))) = 0 then (0) else lp_X9_nameBetween_22 Q x1 x3 nn (k + 1) (x4 ||| ((((q_X5_at Q (x1 + (nI k))) - 97) + 1) <<< ((5 * (nI k)) &&& 31))))
theorem lr_X9_nameBetween_22 {J : MJ} {t : Nat} (hT : TapL J t) (X : MI) (Q : RouV) (x1 : Int32) (x3 : Int32) : ∀ (nn k : Nat) (x4 : Int32), k + nn = (ix x3) → Ev T_X9_nameBetween 22 [some (mR (some t)), some (mI x1), none, some (mI x3), some (mI x4), some (mI (nI k)), none] [] (pt X t Q, J) = some (some (mI ((lp_X9_nameBetween_22 Q x1 x3 nn k x4))), (pt X t Q, J)) := by
  intro nn
  induction nn with
  | zero =>
    intro k x4 hk
    have hk : k = (ix x3) := by omega
    subst hk
    generalize hR : some (some (mI ((lp_X9_nameBetween_22 Q x1 x3 0 (ix x3) x4))), (pt X t Q, J)) = R
    rw [lp_X9_nameBetween_22] at hR
    rw [P_X9_nameBetween_22 hT _ _ _ _ _ _, if_pos ((le_nI (ix_lt x3)).mpr (Nat.le_refl _))]
    exact hR
  | succ nn ih =>
    intro k x4 hk
    generalize hR : some (some (mI ((lp_X9_nameBetween_22 Q x1 x3 (nn + 1) k x4))), (pt X t Q, J)) = R
    rw [lp_X9_nameBetween_22] at hR
    rw [P_X9_nameBetween_22 hT _ _ _ _ _ _, if_neg (fun h => by have h2 := (le_nI (by have := ix_lt x3; omega)).mp h; omega)]
    try rw [ix_nI (by have := ix_lt x3; omega)]
    rw [nI_1 k]
    by_cases k1 : (q_X9_isLetter (q_X5_at Q (x1 + (nI k)))) = 0
    · rewrite [if_pos k1]; simp only [if_pos k1] at hR
      exact hR
    · rewrite [if_neg k1]; simp only [if_neg k1] at hR
      exact (ih (k + 1) _ (by omega)).trans hR
def o_X9_nameBetween (Q : RouV) (x1 : Int32) (x2 : Int32) : Int32 := (if (x2 - x1) < 1 then (0) else (if (x2 - x1) ≤ 4 then lp_X9_nameBetween_22 Q x1 (x2 - x1) (ix ((x2 - x1))) 0 0 else (0)))
def q_X9_nameBetween (Q : RouV) (x1 : Int32) (x2 : Int32) : Int32 := (o_X9_nameBetween Q x1 x2)
theorem s_X9_nameBetween {J : MJ} {t : Nat} (hT : TapL J t) (X : MI) (Q : RouV) (x1 : Int32) (x2 : Int32) : M_X9_nameBetween [mR (some t), mI x1, mI x2] (pt X t Q, J) = some (some (mI (q_X9_nameBetween Q x1 x2)), (pt X t Q, J)) := by
  generalize hR : some (some (mI (q_X9_nameBetween Q x1 x2)), (pt X t Q, J)) = R
  rw [P_X9_nameBetween hT]
  unfold q_X9_nameBetween o_X9_nameBetween at hR
  by_cases k1 : (x2 - x1) < 1
  · rewrite [if_pos k1]; simp only [if_pos k1] at hR
    exact hR
  · rewrite [if_neg k1]; simp only [if_neg k1] at hR
    by_cases k2 : (x2 - x1) ≤ 4
    · rewrite [if_pos k2]; simp only [if_pos k2] at hR
      exact (lr_X9_nameBetween_22 hT X _ _ _ _ 0 _ (by omega)).trans hR
    · rewrite [if_neg k2]; simp only [if_neg k2] at hR
      exact hR
def q_X9_stepBetween (Q : RouV) (x1 : Int32) (x2 : Int32) : Int32 := (if (q_X5_at Q x1) = 46 then (if (x2 - x1) = 1 then (-1) else (if (x2 - x1) = 2 then (if (q_X5_at Q (x1 + 1)) = 46 then (-2) else q_X9_nameBetween Q x1 x2) else q_X9_nameBetween Q x1 x2)) else q_X9_nameBetween Q x1 x2)
theorem s_X9_stepBetween {J : MJ} {t : Nat} (hT : TapL J t) (X : MI) (Q : RouV) (x1 : Int32) (x2 : Int32) : M_X9_stepBetween [mR (some t), mI x1, mI x2] (pt X t Q, J) = some (some (mI (q_X9_stepBetween Q x1 x2)), (pt X t Q, J)) := by
  generalize hR : some (some (mI (q_X9_stepBetween Q x1 x2)), (pt X t Q, J)) = R
  rw [E_X9_stepBetween]
  unfold q_X9_stepBetween at hR
  try simp only [Option.bind_some]
  rewrite [if_pos (show kd (pt X t Q, J) t = 5 from hT.k)]
  rewrite [s_X5_at hT]
  simp only [Option.bind_some, asI_I]
  by_cases h1 : (q_X5_at Q x1) = 46
  · rewrite [if_pos h1]; simp only [if_pos h1] at hR
    first | rewrite [if_neg (show ¬ ((1 : Int32) = 0) by decide)] | rewrite [if_neg not_false] | simp only [if_false]
    by_cases h2 : (x2 - x1) = 1
    · rewrite [if_pos h2]; simp only [if_pos h2] at hR
      exact hR
    · rewrite [if_neg h2]; simp only [if_neg h2] at hR
      first | rewrite [if_neg (show ¬ ((1 : Int32) = 0) by decide)] | rewrite [if_neg not_false] | simp only [if_false]
      by_cases h3 : (x2 - x1) = 2
      · rewrite [if_pos h3]; simp only [if_pos h3] at hR
        try simp only [Option.bind_some]
        rewrite [if_pos (show kd (pt X t Q, J) t = 5 from hT.k)]
        rewrite [s_X5_at hT]
        simp only [Option.bind_some, asI_I]
        by_cases h4 : (q_X5_at Q (x1 + 1)) = 46
        · rewrite [if_pos h4]; simp only [if_pos h4] at hR
          exact hR
        · rewrite [if_neg h4]; simp only [if_neg h4] at hR
          try simp only [Option.bind_some]
          rewrite [s_X9_nameBetween hT]
          simp only [Option.bind_some, asI_I]
          exact hR
      · rewrite [if_neg h3]; simp only [if_neg h3] at hR
        try simp only [Option.bind_some]
        rewrite [s_X9_nameBetween hT]
        simp only [Option.bind_some, asI_I]
        exact hR
  · rewrite [if_neg h1]; simp only [if_neg h1] at hR
    first | rewrite [if_pos (show (0 : Int32) = 0 by decide)] | rewrite [if_pos trivial] | simp only [if_true]
    first | rewrite [if_pos (show (0 : Int32) = 0 by decide)] | rewrite [if_pos trivial] | simp only [if_true]
    try simp only [Option.bind_some]
    rewrite [s_X9_nameBetween hT]
    simp only [Option.bind_some, asI_I]
    exact hR
theorem P_X4_endOfStep {J : MJ} {t : Nat} (hT : TapL J t) (X : MI) (Q : RouV) (x1 : Int32) (x2 : Int32) : M_X4_endOfStep [mR (some t), mI x1, mI x2] (pt X t Q, J) = Ev T_X4_endOfStep 2 [some (mR (some t)), none, some (mI x2), some (mI x1)] [] (pt X t Q, J) := by
  generalize hR : Ev T_X4_endOfStep 2 [some (mR (some t)), none, some (mI x2), some (mI x1)] [] (pt X t Q, J) = R
  rw [E_X4_endOfStep]
  exact hR
theorem P_X4_endOfStep_2 {J : MJ} {t : Nat} (hT : TapL J t) (X : MI) (Q : RouV) (x2 : Int32) (x3 : Int32) : Ev T_X4_endOfStep 2 [some (mR (some t)), none, some (mI x2), some (mI x3)] [] (pt X t Q, J) = (if x2 ≤ x3 then some (some (mI x3), (pt X t Q, J)) else (if (q_X5_at Q x3) = 47 then some (some (mI x3), (pt X t Q, J)) else Ev T_X4_endOfStep 2 [some (mR (some t)), none, some (mI x2), some (mI (x3 + 1))] [] (pt X t Q, J))) := by
  generalize hR : (if x2 ≤ x3 then some (some (mI x3), (pt X t Q, J)) else (if (q_X5_at Q x3) = 47 then some (some (mI x3), (pt X t Q, J)) else Ev T_X4_endOfStep 2 [some (mR (some t)), none, some (mI x2), some (mI (x3 + 1))] [] (pt X t Q, J))) = R
  rw [E_X4_endOfStep_2]
  by_cases h1 : x2 ≤ x3
  · rewrite [if_pos h1]; simp only [if_pos h1] at hR
    exact hR
  · rewrite [if_neg h1]; simp only [if_neg h1] at hR
    try simp only [Option.bind_some]
    rewrite [if_pos (show kd (pt X t Q, J) t = 5 from hT.k)]
    rewrite [s_X5_at hT]
    simp only [Option.bind_some, asI_I]
    by_cases h2 : (q_X5_at Q x3) = 47
    · rewrite [if_pos h2]; simp only [if_pos h2] at hR
      exact hR
    · rewrite [if_neg h2]; simp only [if_neg h2] at hR
      exact hR
theorem P_X1_walk {J : MJ} {r L n m : Nat} (hP : RouL J r L) (hN : NodL J n) (hM : MemL J m n) (d_PU : r + 2 ≤ n ∨ n + 6 ≤ r) (d_PV : r + 2 ≤ m ∨ m + 12 ≤ r) (d_UV : n + 6 ≤ m ∨ m + 12 ≤ n) (X : MI) (P : RouV) (U : NodV) (V : MemV) (x2 : Int32) : M_X1_walk [mR (some m), mR (some r), mI x2] (pt (pt (pt X r P) n U) m V, J) = Ev T_X1_walk 8 [some (mR (some m)), some (mR (some r)), some (mI x2), some (mI (q_X1_comeToRoot V)), some (mI 0)] [] (pt (pt (pt X r P) n U) m (gV_X1_comeToRoot V), J) := by
  generalize hR : Ev T_X1_walk 8 [some (mR (some m)), some (mR (some r)), some (mI x2), some (mI (q_X1_comeToRoot V)), some (mI 0)] [] (pt (pt (pt X r P) n U) m (gV_X1_comeToRoot V), J) = R
  rw [E_X1_walk]
  try simp only [Option.bind_some]
  rewrite [if_pos (show kd (pt (pt (pt X r P) n U) m V, J) m = 1 from hM.k)]
  rewrite [s_X1_comeToRoot hM]
  simp only [Option.bind_some, asI_I]
  exact hR
theorem P_X1_walk_8 {J : MJ} {r L n m : Nat} (hP : RouL J r L) (hN : NodL J n) (hM : MemL J m n) (d_PU : r + 2 ≤ n ∨ n + 6 ≤ r) (d_PV : r + 2 ≤ m ∨ m + 12 ≤ r) (d_UV : n + 6 ≤ m ∨ m + 12 ≤ n) (X : MI) (P : RouV) (U : NodV) (V : MemV) (x2 : Int32) (x3 : Int32) (x4 : Int32) : Ev T_X1_walk 8 [some (mR (some m)), some (mR (some r)), some (mI x2), some (mI x3), some (mI x4)] [] (pt (pt (pt X r P) n U) m V, J) = (if x2 ≤ x4 then some (some (mI x3), (pt (pt (pt X r P) n U) m V, J)) else (if x3 < 0 then some (some (mI x3), (pt (pt (pt X r P) n U) m V, J)) else Ev T_X1_walk 8 [some (mR (some m)), some (mR (some r)), some (mI x2), some (mI (q_X1_stepFrom U V x3 (q_X4_stepAt L P x4))), some (mI (x4 + 1))] [] (pt (pt (pt X r P) n U) m (gV_X1_stepFrom U V x3 (q_X4_stepAt L P x4)), J))) := by
  generalize hR : (if x2 ≤ x4 then some (some (mI x3), (pt (pt (pt X r P) n U) m V, J)) else (if x3 < 0 then some (some (mI x3), (pt (pt (pt X r P) n U) m V, J)) else Ev T_X1_walk 8 [some (mR (some m)), some (mR (some r)), some (mI x2), some (mI (q_X1_stepFrom U V x3 (q_X4_stepAt L P x4))), some (mI (x4 + 1))] [] (pt (pt (pt X r P) n U) m (gV_X1_stepFrom U V x3 (q_X4_stepAt L P x4)), J))) = R
  rw [E_X1_walk_8]
  by_cases h1 : x2 ≤ x4
  · rewrite [if_pos h1]; simp only [if_pos h1] at hR
    exact hR
  · rewrite [if_neg h1]; simp only [if_neg h1] at hR
    by_cases h2 : x3 < 0
    · rewrite [if_pos h2]; simp only [if_pos h2] at hR
      exact hR
    · rewrite [if_neg h2]; simp only [if_neg h2] at hR
      try simp only [Option.bind_some]
      rewrite [if_pos (show kd (pt (pt (pt X r P) n U) m V, J) r = 4 from hP.k)]
      rw [pt_comm X P U d_PU, pt_comm (pt X n U) P V d_PV]
      rw [s_X4_stepAt hP]
      rw [pt_comm (pt X n U) V P (Or.symm d_PV), pt_comm X U P (Or.symm d_PU)]
      simp only [Option.bind_some, asI_I]
      try simp only [Option.bind_some]
      rewrite [if_pos (show kd (pt (pt (pt X r P) n U) m V, J) m = 1 from hM.k)]
      rewrite [s_X1_stepFrom hN hM d_UV]
      simp only [Option.bind_some, asI_I]
      exact hR
def lp_X1_walk_8 (L : Nat) (P : RouV) (U : NodV) (x2 : Int32) : Nat → Nat → Int32 → MemV → Int32 × MemV
  | 0, k, x3, V => (x3, V)
  | nn + 1, k, x3, V => (if x3 < 0 then (x3, V) else lp_X1_walk_8 L P U x2 nn (k + 1) (q_X1_stepFrom U V x3 (q_X4_stepAt L P (nI k))) (gV_X1_stepFrom U V x3 (q_X4_stepAt L P (nI k))))
theorem lr_X1_walk_8 {J : MJ} {r L n m : Nat} (hP : RouL J r L) (hN : NodL J n) (hM : MemL J m n) (d_PU : r + 2 ≤ n ∨ n + 6 ≤ r) (d_PV : r + 2 ≤ m ∨ m + 12 ≤ r) (d_UV : n + 6 ≤ m ∨ m + 12 ≤ n) (X : MI) (P : RouV) (U : NodV) (x2 : Int32) : ∀ (nn k : Nat) (x3 : Int32) (V : MemV), k + nn = (ix x2) → Ev T_X1_walk 8 [some (mR (some m)), some (mR (some r)), some (mI x2), some (mI x3), some (mI (nI k))] [] (pt (pt (pt X r P) n U) m V, J) = some (some (mI ((lp_X1_walk_8 L P U x2 nn k x3 V).1)), (pt (pt (pt X r P) n U) m ((lp_X1_walk_8 L P U x2 nn k x3 V).2), J)) := by
  intro nn
  induction nn with
  | zero =>
    intro k x3 V hk
    have hk : k = (ix x2) := by omega
    subst hk
    generalize hR : some (some (mI ((lp_X1_walk_8 L P U x2 0 (ix x2) x3 V).1)), (pt (pt (pt X r P) n U) m ((lp_X1_walk_8 L P U x2 0 (ix x2) x3 V).2), J)) = R
    rw [lp_X1_walk_8] at hR
    rw [P_X1_walk_8 hP hN hM d_PU d_PV d_UV _ _ _ _ _ _ _, if_pos ((le_nI (ix_lt x2)).mpr (Nat.le_refl _))]
    exact hR
  | succ nn ih =>
    intro k x3 V hk
    generalize hR : some (some (mI ((lp_X1_walk_8 L P U x2 (nn + 1) k x3 V).1)), (pt (pt (pt X r P) n U) m ((lp_X1_walk_8 L P U x2 (nn + 1) k x3 V).2), J)) = R
    rw [lp_X1_walk_8] at hR
    rw [P_X1_walk_8 hP hN hM d_PU d_PV d_UV _ _ _ _ _ _ _, if_neg (fun h => by have h2 := (le_nI (by have := ix_lt x2; omega)).mp h; omega)]
    try rw [ix_nI (by have := ix_lt x2; omega)]
    rw [nI_1 k]
    by_cases k1 : x3 < 0
    · rewrite [if_pos k1]; simp only [if_pos k1] at hR
      exact hR
    · rewrite [if_neg k1]; simp only [if_neg k1] at hR
      exact (ih (k + 1) _ _ (by omega)).trans hR
def o_X1_walk (L : Nat) (P : RouV) (U : NodV) (V : MemV) (x2 : Int32) : Int32 × MemV := lp_X1_walk_8 L P U x2 (ix x2) 0 (q_X1_comeToRoot V) (gV_X1_comeToRoot V)
def q_X1_walk (L : Nat) (P : RouV) (U : NodV) (V : MemV) (x2 : Int32) : Int32 := (o_X1_walk L P U V x2).1
def gV_X1_walk (L : Nat) (P : RouV) (U : NodV) (V : MemV) (x2 : Int32) : MemV := (o_X1_walk L P U V x2).2
theorem s_X1_walk {J : MJ} {r L n m : Nat} (hP : RouL J r L) (hN : NodL J n) (hM : MemL J m n) (d_PU : r + 2 ≤ n ∨ n + 6 ≤ r) (d_PV : r + 2 ≤ m ∨ m + 12 ≤ r) (d_UV : n + 6 ≤ m ∨ m + 12 ≤ n) (X : MI) (P : RouV) (U : NodV) (V : MemV) (x2 : Int32) : M_X1_walk [mR (some m), mR (some r), mI x2] (pt (pt (pt X r P) n U) m V, J) = some (some (mI (q_X1_walk L P U V x2)), (pt (pt (pt X r P) n U) m ((gV_X1_walk L P U V x2)), J)) := by
  generalize hR : some (some (mI (q_X1_walk L P U V x2)), (pt (pt (pt X r P) n U) m ((gV_X1_walk L P U V x2)), J)) = R
  rw [P_X1_walk hP hN hM d_PU d_PV d_UV]
  unfold q_X1_walk gV_X1_walk o_X1_walk at hR
  exact (lr_X1_walk_8 hP hN hM d_PU d_PV d_UV X _ _ _ _ 0 _ _ (by omega)).trans hR
def gU_X2_copyFrom (U2 : NodV) (U : NodV) : NodV := uv (uv (cpv (cpv (cpv (cpv (cpv U 1 60 (U2 1)) 2 60 (U2 2)) 3 60 (U2 3)) 4 60 (U2 4)) 5 3 (U2 5)) 0 5 (U2 0 5)) 0 6 (U2 0 6)
theorem s_X2_copyFrom {J : MJ} {n2 n : Nat} (hN2 : NodL J n2) (hN : NodL J n) (d_U2U : n2 + 6 ≤ n ∨ n + 6 ≤ n2) (X : MI) (U2 : NodV) (U : NodV) : M_X2_copyFrom [mR (some n), mR (some n2)] (pt (pt X n2 U2) n U, J) = some (none, (pt (pt X n2 U2) n (gU_X2_copyFrom U2 U), J)) := by
  generalize hR : some (none, (pt (pt X n2 U2) n (gU_X2_copyFrom U2 U), J)) = R
  rw [E_X2_copyFrom]
  unfold gU_X2_copyFrom at hR
  try rewrite [fR_ok 0 hN2.k]
  try rewrite [Option.bind_some]
  try rewrite [hN2.r1]
  try rewrite [fR_ok 0 hN.k]
  try rewrite [Option.bind_some]
  try rewrite [hN.r1]
  try simp only [Option.bind_some]
  try rewrite [cpy_ok hN2.s1 hN.s1 (by decide) (by have := d_U2U; omega) 60 rfl]
  try simp only [Option.bind_some]
  try rewrite [c6_1]
  try rewrite [pt_out (x := n2 + 1) (a := n) (by have := d_U2U; omega)]
  try rewrite [p6_1]
  try rewrite [fR_ok 1 hN2.k]
  try rewrite [Option.bind_some]
  try rewrite [hN2.r2]
  try rewrite [fR_ok 1 hN.k]
  try rewrite [Option.bind_some]
  try rewrite [hN.r2]
  try simp only [Option.bind_some]
  try rewrite [cpy_ok hN2.s2 hN.s2 (by decide) (by have := d_U2U; omega) 60 rfl]
  try simp only [Option.bind_some]
  try rewrite [c6_2]
  try rewrite [pt_out (x := n2 + 2) (a := n) (by have := d_U2U; omega)]
  try rewrite [p6_2]
  try rewrite [fR_ok 2 hN2.k]
  try rewrite [Option.bind_some]
  try rewrite [hN2.r3]
  try rewrite [fR_ok 2 hN.k]
  try rewrite [Option.bind_some]
  try rewrite [hN.r3]
  try simp only [Option.bind_some]
  try rewrite [cpy_ok hN2.s3 hN.s3 (by decide) (by have := d_U2U; omega) 60 rfl]
  try simp only [Option.bind_some]
  try rewrite [c6_3]
  try rewrite [pt_out (x := n2 + 3) (a := n) (by have := d_U2U; omega)]
  try rewrite [p6_3]
  try rewrite [fR_ok 3 hN2.k]
  try rewrite [Option.bind_some]
  try rewrite [hN2.r4]
  try rewrite [fR_ok 3 hN.k]
  try rewrite [Option.bind_some]
  try rewrite [hN.r4]
  try simp only [Option.bind_some]
  try rewrite [cpy_ok hN2.s4 hN.s4 (by decide) (by have := d_U2U; omega) 60 rfl]
  try simp only [Option.bind_some]
  try rewrite [c6_4]
  try rewrite [pt_out (x := n2 + 4) (a := n) (by have := d_U2U; omega)]
  try rewrite [p6_4]
  try rewrite [fR_ok 4 hN2.k]
  try rewrite [Option.bind_some]
  try rewrite [hN2.r5]
  try rewrite [fR_ok 4 hN.k]
  try rewrite [Option.bind_some]
  try rewrite [hN.r5]
  try simp only [Option.bind_some]
  try rewrite [cpy_ok hN2.s5 hN.s5 (by decide) (by have := d_U2U; omega) 3 rfl]
  try simp only [Option.bind_some]
  try rewrite [c6_5]
  try rewrite [pt_out (x := n2 + 5) (a := n) (by have := d_U2U; omega)]
  try rewrite [p6_5]
  try rewrite [fI_ok 5 hN2.k]
  try rewrite [Option.bind_some]
  try rewrite [pt_out (x := n2) (a := n) (by have := d_U2U; omega)]
  try rewrite [p6_0]
  try rewrite [wI_ok 5 _ hN.k]
  try rewrite [Option.bind_some]
  try rewrite [u6_0]
  try rewrite [fI_ok 6 hN2.k]
  try rewrite [Option.bind_some]
  try rewrite [pt_out (x := n2) (a := n) (by have := d_U2U; omega)]
  try rewrite [p6_0]
  try rewrite [wI_ok 6 _ hN.k]
  try rewrite [Option.bind_some]
  try rewrite [u6_0]
  exact hR
def gV_X1_copyFrom (V2 : MemV) (V : MemV) : MemV := uv (uv (uv (uv (cpv (cpv (cpv (cpv (cpv (cpv (cpv (cpv (cpv (cpv V 1 64 (V2 1)) 2 64 (V2 2)) 3 64 (V2 3)) 4 64 (V2 4)) 5 64 (V2 5)) 6 64 (V2 6)) 7 64 (V2 7)) 8 64 (V2 8)) 9 3 (V2 9)) 10 3 (V2 10)) 0 11 (V2 0 11)) 0 12 (V2 0 12)) 0 13 (V2 0 13)) 0 14 (V2 0 14)
theorem s_X1_copyFrom {J : MJ} {m2 nx m n : Nat} (hM2 : MemL J m2 nx) (hM : MemL J m n) (d_V2V : m2 + 12 ≤ m ∨ m + 12 ≤ m2) (X : MI) (V2 : MemV) (V : MemV) : M_X1_copyFrom [mR (some m), mR (some m2)] (pt (pt X m2 V2) m V, J) = some (none, (pt (pt X m2 V2) m (gV_X1_copyFrom V2 V), J)) := by
  generalize hR : some (none, (pt (pt X m2 V2) m (gV_X1_copyFrom V2 V), J)) = R
  rw [E_X1_copyFrom]
  unfold gV_X1_copyFrom at hR
  try rewrite [fR_ok 1 hM2.k]
  try rewrite [Option.bind_some]
  try rewrite [hM2.r1]
  try rewrite [fR_ok 1 hM.k]
  try rewrite [Option.bind_some]
  try rewrite [hM.r1]
  try simp only [Option.bind_some]
  try rewrite [cpy_ok hM2.s1 hM.s1 (by decide) (by have := d_V2V; omega) 64 rfl]
  try simp only [Option.bind_some]
  try rewrite [c12_1]
  try rewrite [pt_out (x := m2 + 1) (a := m) (by have := d_V2V; omega)]
  try rewrite [p12_1]
  try rewrite [fR_ok 2 hM2.k]
  try rewrite [Option.bind_some]
  try rewrite [hM2.r2]
  try rewrite [fR_ok 2 hM.k]
  try rewrite [Option.bind_some]
  try rewrite [hM.r2]
  try simp only [Option.bind_some]
  try rewrite [cpy_ok hM2.s2 hM.s2 (by decide) (by have := d_V2V; omega) 64 rfl]
  try simp only [Option.bind_some]
  try rewrite [c12_2]
  try rewrite [pt_out (x := m2 + 2) (a := m) (by have := d_V2V; omega)]
  try rewrite [p12_2]
  try rewrite [fR_ok 3 hM2.k]
  try rewrite [Option.bind_some]
  try rewrite [hM2.r3]
  try rewrite [fR_ok 3 hM.k]
  try rewrite [Option.bind_some]
  try rewrite [hM.r3]
  try simp only [Option.bind_some]
  try rewrite [cpy_ok hM2.s3 hM.s3 (by decide) (by have := d_V2V; omega) 64 rfl]
  try simp only [Option.bind_some]
  try rewrite [c12_3]
  try rewrite [pt_out (x := m2 + 3) (a := m) (by have := d_V2V; omega)]
  try rewrite [p12_3]
  try rewrite [fR_ok 4 hM2.k]
  try rewrite [Option.bind_some]
  try rewrite [hM2.r4]
  try rewrite [fR_ok 4 hM.k]
  try rewrite [Option.bind_some]
  try rewrite [hM.r4]
  try simp only [Option.bind_some]
  try rewrite [cpy_ok hM2.s4 hM.s4 (by decide) (by have := d_V2V; omega) 64 rfl]
  try simp only [Option.bind_some]
  try rewrite [c12_4]
  try rewrite [pt_out (x := m2 + 4) (a := m) (by have := d_V2V; omega)]
  try rewrite [p12_4]
  try rewrite [fR_ok 5 hM2.k]
  try rewrite [Option.bind_some]
  try rewrite [hM2.r5]
  try rewrite [fR_ok 5 hM.k]
  try rewrite [Option.bind_some]
  try rewrite [hM.r5]
  try simp only [Option.bind_some]
  try rewrite [cpy_ok hM2.s5 hM.s5 (by decide) (by have := d_V2V; omega) 64 rfl]
  try simp only [Option.bind_some]
  try rewrite [c12_5]
  try rewrite [pt_out (x := m2 + 5) (a := m) (by have := d_V2V; omega)]
  try rewrite [p12_5]
  try rewrite [fR_ok 6 hM2.k]
  try rewrite [Option.bind_some]
  try rewrite [hM2.r6]
  try rewrite [fR_ok 6 hM.k]
  try rewrite [Option.bind_some]
  try rewrite [hM.r6]
  try simp only [Option.bind_some]
  try rewrite [cpy_ok hM2.s6 hM.s6 (by decide) (by have := d_V2V; omega) 64 rfl]
  try simp only [Option.bind_some]
  try rewrite [c12_6]
  try rewrite [pt_out (x := m2 + 6) (a := m) (by have := d_V2V; omega)]
  try rewrite [p12_6]
  try rewrite [fR_ok 7 hM2.k]
  try rewrite [Option.bind_some]
  try rewrite [hM2.r7]
  try rewrite [fR_ok 7 hM.k]
  try rewrite [Option.bind_some]
  try rewrite [hM.r7]
  try simp only [Option.bind_some]
  try rewrite [cpy_ok hM2.s7 hM.s7 (by decide) (by have := d_V2V; omega) 64 rfl]
  try simp only [Option.bind_some]
  try rewrite [c12_7]
  try rewrite [pt_out (x := m2 + 7) (a := m) (by have := d_V2V; omega)]
  try rewrite [p12_7]
  try rewrite [fR_ok 8 hM2.k]
  try rewrite [Option.bind_some]
  try rewrite [hM2.r8]
  try rewrite [fR_ok 8 hM.k]
  try rewrite [Option.bind_some]
  try rewrite [hM.r8]
  try simp only [Option.bind_some]
  try rewrite [cpy_ok hM2.s8 hM.s8 (by decide) (by have := d_V2V; omega) 64 rfl]
  try simp only [Option.bind_some]
  try rewrite [c12_8]
  try rewrite [pt_out (x := m2 + 8) (a := m) (by have := d_V2V; omega)]
  try rewrite [p12_8]
  try rewrite [fR_ok 9 hM2.k]
  try rewrite [Option.bind_some]
  try rewrite [hM2.r9]
  try rewrite [fR_ok 9 hM.k]
  try rewrite [Option.bind_some]
  try rewrite [hM.r9]
  try simp only [Option.bind_some]
  try rewrite [cpy_ok hM2.s9 hM.s9 (by decide) (by have := d_V2V; omega) 3 rfl]
  try simp only [Option.bind_some]
  try rewrite [c12_9]
  try rewrite [pt_out (x := m2 + 9) (a := m) (by have := d_V2V; omega)]
  try rewrite [p12_9]
  try rewrite [fR_ok 10 hM2.k]
  try rewrite [Option.bind_some]
  try rewrite [hM2.r10]
  try rewrite [fR_ok 10 hM.k]
  try rewrite [Option.bind_some]
  try rewrite [hM.r10]
  try simp only [Option.bind_some]
  try rewrite [cpy_ok hM2.s10 hM.s10 (by decide) (by have := d_V2V; omega) 3 rfl]
  try simp only [Option.bind_some]
  try rewrite [c12_10]
  try rewrite [pt_out (x := m2 + 10) (a := m) (by have := d_V2V; omega)]
  try rewrite [p12_10]
  try rewrite [fI_ok 11 hM2.k]
  try rewrite [Option.bind_some]
  try rewrite [pt_out (x := m2) (a := m) (by have := d_V2V; omega)]
  try rewrite [p12_0]
  try rewrite [wI_ok 11 _ hM.k]
  try rewrite [Option.bind_some]
  try rewrite [u12_0]
  try rewrite [fI_ok 12 hM2.k]
  try rewrite [Option.bind_some]
  try rewrite [pt_out (x := m2) (a := m) (by have := d_V2V; omega)]
  try rewrite [p12_0]
  try rewrite [wI_ok 12 _ hM.k]
  try rewrite [Option.bind_some]
  try rewrite [u12_0]
  try rewrite [fI_ok 13 hM2.k]
  try rewrite [Option.bind_some]
  try rewrite [pt_out (x := m2) (a := m) (by have := d_V2V; omega)]
  try rewrite [p12_0]
  try rewrite [wI_ok 13 _ hM.k]
  try rewrite [Option.bind_some]
  try rewrite [u12_0]
  try rewrite [fI_ok 14 hM2.k]
  try rewrite [Option.bind_some]
  try rewrite [pt_out (x := m2) (a := m) (by have := d_V2V; omega)]
  try rewrite [p12_0]
  try rewrite [wI_ok 14 _ hM.k]
  try rewrite [Option.bind_some]
  try rewrite [u12_0]
  exact hR

/-! The reader. Written by gen/run5.py. -/
def q_X3_readInside (E : OneV) (Q : RouV) (U : NodV) (x2 : Int32) : Int32 := (if x2 = 59 then (if (E 0 4) = 0 then 1 else (if x2 = 125 then (if (E 0 4) ≤ 0 then (if (q_X9_isLetter x2) = 0 then q_X3_fail E 1 (E 0 3) else q_X3_readItem E Q U) else 1) else (if (q_X9_isLetter x2) = 0 then q_X3_fail E 1 (E 0 3) else q_X3_readItem E Q U))) else (if x2 = 125 then (if (E 0 4) ≤ 0 then (if (q_X9_isLetter x2) = 0 then q_X3_fail E 1 (E 0 3) else q_X3_readItem E Q U) else 1) else (if (q_X9_isLetter x2) = 0 then q_X3_fail E 1 (E 0 3) else q_X3_readItem E Q U)))
def gE_X3_readInside (E : OneV) (Q : RouV) (U : NodV) (x2 : Int32) : OneV := (if x2 = 59 then (if (E 0 4) = 0 then uv (uv E 0 6 0) 0 3 ((E 0 3) + 1) else (if x2 = 125 then (if (E 0 4) ≤ 0 then (if (q_X9_isLetter x2) = 0 then gE_X3_fail E 1 (E 0 3) else gE_X3_readItem E Q U) else uv (uv (uv E 0 5 (q_X2_parentOf U (E 0 5))) 0 4 ((E 0 4) - 1)) 0 3 ((E 0 3) + 1)) else (if (q_X9_isLetter x2) = 0 then gE_X3_fail E 1 (E 0 3) else gE_X3_readItem E Q U))) else (if x2 = 125 then (if (E 0 4) ≤ 0 then (if (q_X9_isLetter x2) = 0 then gE_X3_fail E 1 (E 0 3) else gE_X3_readItem E Q U) else uv (uv (uv E 0 5 (q_X2_parentOf U (E 0 5))) 0 4 ((E 0 4) - 1)) 0 3 ((E 0 3) + 1)) else (if (q_X9_isLetter x2) = 0 then gE_X3_fail E 1 (E 0 3) else gE_X3_readItem E Q U)))
def gU_X3_readInside (E : OneV) (Q : RouV) (U : NodV) (x2 : Int32) : NodV := (if x2 = 59 then (if (E 0 4) = 0 then U else (if x2 = 125 then (if (E 0 4) ≤ 0 then (if (q_X9_isLetter x2) = 0 then U else gU_X3_readItem E Q U) else U) else (if (q_X9_isLetter x2) = 0 then U else gU_X3_readItem E Q U))) else (if x2 = 125 then (if (E 0 4) ≤ 0 then (if (q_X9_isLetter x2) = 0 then U else gU_X3_readItem E Q U) else U) else (if (q_X9_isLetter x2) = 0 then U else gU_X3_readItem E Q U)))
theorem s_X3_readInside {J : MJ} {e n t : Nat} (hE : RdrL J e n) (hT : TapL J t) (hN : NodL J n) (d_EQ : e + 1 ≤ t ∨ t + 2 ≤ e) (d_EU : e + 1 ≤ n ∨ n + 6 ≤ e) (d_QU : t + 2 ≤ n ∨ n + 6 ≤ t) (X : MI) (E : OneV) (Q : RouV) (U : NodV) (x2 : Int32) : M_X3_readInside [mR (some e), mR (some t), mI x2] (pt (pt (pt X e E) t Q) n U, J) = some (some (mI (q_X3_readInside E Q U x2)), (pt (pt (pt X e (gE_X3_readInside E Q U x2)) t Q) n (gU_X3_readInside E Q U x2), J)) := by
  generalize hR : some (some (mI (q_X3_readInside E Q U x2)), (pt (pt (pt X e (gE_X3_readInside E Q U x2)) t Q) n (gU_X3_readInside E Q U x2), J)) = R
  rw [E_X3_readInside]
  unfold q_X3_readInside gE_X3_readInside gU_X3_readInside at hR
  by_cases h1 : x2 = 59
  · rewrite [if_pos h1]; simp only [if_pos h1] at hR
    try rewrite [fI_ok 4 hE.k]
    try rewrite [Option.bind_some]
    try rewrite [pt_out (x := e) (a := n) (by have := d_EU; omega)]
    try rewrite [pt_out (x := e) (a := t) (by have := d_EQ; omega)]
    try rewrite [p1_0]
    by_cases h2 : (E 0 4) = 0
    · rewrite [if_pos h2]; simp only [if_pos h2] at hR
      try rewrite [wZ_ok 6 _ hE.k (by decide)]
      try rewrite [Option.bind_some]
      try rewrite [up_out (x := e) (a := n) (by have := d_EU; omega)]
      try rewrite [up_out (x := e) (a := t) (by have := d_EQ; omega)]
      try rewrite [u1_0]
      try rewrite [fI_ok 3 hE.k]
      try rewrite [Option.bind_some]
      try rewrite [pt_out (x := e) (a := n) (by have := d_EU; omega)]
      try rewrite [pt_out (x := e) (a := t) (by have := d_EQ; omega)]
      try rewrite [p1_0]
      try rewrite [uv_n _ _ _ _ _ _ (by decide)]
      try rewrite [wI_ok 3 _ hE.k]
      try rewrite [Option.bind_some]
      try rewrite [up_out (x := e) (a := n) (by have := d_EU; omega)]
      try rewrite [up_out (x := e) (a := t) (by have := d_EQ; omega)]
      try rewrite [u1_0]
      first | exact hR | (simp only [if_pos (show (0 : Int32) = 0 ∨ (0 : Int32) = 1 by decide), if_pos (show (1 : Int32) = 0 ∨ (1 : Int32) = 1 by decide)]; exact hR) | (simp; exact hR)
    · rewrite [if_neg h2]; simp only [if_neg h2] at hR
      by_cases h3 : x2 = 125
      · rewrite [if_pos h3]; simp only [if_pos h3] at hR
        try rewrite [fI_ok 4 hE.k]
        try rewrite [Option.bind_some]
        try rewrite [pt_out (x := e) (a := n) (by have := d_EU; omega)]
        try rewrite [pt_out (x := e) (a := t) (by have := d_EQ; omega)]
        try rewrite [p1_0]
        by_cases h4 : (E 0 4) ≤ 0
        · rewrite [if_pos h4]; simp only [if_pos h4] at hR
          try simp only [Option.bind_some]
          rewrite [s_X9_isLetter ]
          simp only [Option.bind_some, asI_I]
          by_cases h5 : (q_X9_isLetter x2) = 0
          · rewrite [if_pos h5]; simp only [if_pos h5] at hR
            try rewrite [fI_ok 3 hE.k]
            try rewrite [Option.bind_some]
            try rewrite [pt_out (x := e) (a := n) (by have := d_EU; omega)]
            try rewrite [pt_out (x := e) (a := t) (by have := d_EQ; omega)]
            try rewrite [p1_0]
            try simp only [Option.bind_some]
            rewrite [if_pos (show kd (pt (pt (pt X e E) t Q) n U, J) e = 3 from hE.k)]
            rw [pt_comm X E Q d_EQ, pt_comm (pt X t Q) E U d_EU]
            rw [s_X3_fail hE]
            rw [pt_comm (pt X t Q) U (gE_X3_fail E 1 (E 0 3)) (Or.symm d_EU), pt_comm X Q (gE_X3_fail E 1 (E 0 3)) (Or.symm d_EQ)]
            simp only [Option.bind_some, asI_I]
            try rewrite [if_pos (z_X3_fail ..)]
            exact hR
          · rewrite [if_neg h5]; simp only [if_neg h5] at hR
            try simp only [Option.bind_some]
            rewrite [if_pos (show kd (pt (pt (pt X e E) t Q) n U, J) e = 3 from hE.k)]
            rewrite [s_X3_readItem hE hT hN d_EQ d_EU d_QU]
            simp only [Option.bind_some, asI_I]
            try rewrite [if_pos (z_X3_readItem ..)]
            exact hR
        · rewrite [if_neg h4]; simp only [if_neg h4] at hR
          try rewrite [fR_ok 0 hE.k]
          try rewrite [Option.bind_some]
          try rewrite [hE.r0]
          try rewrite [fI_ok 5 hE.k]
          try rewrite [Option.bind_some]
          try rewrite [pt_out (x := e) (a := n) (by have := d_EU; omega)]
          try rewrite [pt_out (x := e) (a := t) (by have := d_EQ; omega)]
          try rewrite [p1_0]
          try simp only [Option.bind_some]
          rewrite [if_pos (show kd (pt (pt (pt X e E) t Q) n U, J) n = 2 from hN.k)]
          rewrite [s_X2_parentOf hN]
          simp only [Option.bind_some, asI_I]
          try rewrite [wI_ok 5 _ hE.k]
          try rewrite [Option.bind_some]
          try rewrite [up_out (x := e) (a := n) (by have := d_EU; omega)]
          try rewrite [up_out (x := e) (a := t) (by have := d_EQ; omega)]
          try rewrite [u1_0]
          try rewrite [fI_ok 4 hE.k]
          try rewrite [Option.bind_some]
          try rewrite [pt_out (x := e) (a := n) (by have := d_EU; omega)]
          try rewrite [pt_out (x := e) (a := t) (by have := d_EQ; omega)]
          try rewrite [p1_0]
          try rewrite [uv_n _ _ _ _ _ _ (by decide)]
          try rewrite [wI_ok 4 _ hE.k]
          try rewrite [Option.bind_some]
          try rewrite [up_out (x := e) (a := n) (by have := d_EU; omega)]
          try rewrite [up_out (x := e) (a := t) (by have := d_EQ; omega)]
          try rewrite [u1_0]
          try rewrite [fI_ok 3 hE.k]
          try rewrite [Option.bind_some]
          try rewrite [pt_out (x := e) (a := n) (by have := d_EU; omega)]
          try rewrite [pt_out (x := e) (a := t) (by have := d_EQ; omega)]
          try rewrite [p1_0]
          try rewrite [uv_n _ _ _ _ _ _ (by decide)]
          try rewrite [uv_n _ _ _ _ _ _ (by decide)]
          try rewrite [wI_ok 3 _ hE.k]
          try rewrite [Option.bind_some]
          try rewrite [up_out (x := e) (a := n) (by have := d_EU; omega)]
          try rewrite [up_out (x := e) (a := t) (by have := d_EQ; omega)]
          try rewrite [u1_0]
          first | exact hR | (simp only [if_pos (show (0 : Int32) = 0 ∨ (0 : Int32) = 1 by decide), if_pos (show (1 : Int32) = 0 ∨ (1 : Int32) = 1 by decide)]; exact hR) | (simp; exact hR)
      · rewrite [if_neg h3]; simp only [if_neg h3] at hR
        try simp only [Option.bind_some]
        rewrite [s_X9_isLetter ]
        simp only [Option.bind_some, asI_I]
        by_cases h6 : (q_X9_isLetter x2) = 0
        · rewrite [if_pos h6]; simp only [if_pos h6] at hR
          try rewrite [fI_ok 3 hE.k]
          try rewrite [Option.bind_some]
          try rewrite [pt_out (x := e) (a := n) (by have := d_EU; omega)]
          try rewrite [pt_out (x := e) (a := t) (by have := d_EQ; omega)]
          try rewrite [p1_0]
          try simp only [Option.bind_some]
          rewrite [if_pos (show kd (pt (pt (pt X e E) t Q) n U, J) e = 3 from hE.k)]
          rw [pt_comm X E Q d_EQ, pt_comm (pt X t Q) E U d_EU]
          rw [s_X3_fail hE]
          rw [pt_comm (pt X t Q) U (gE_X3_fail E 1 (E 0 3)) (Or.symm d_EU), pt_comm X Q (gE_X3_fail E 1 (E 0 3)) (Or.symm d_EQ)]
          simp only [Option.bind_some, asI_I]
          try rewrite [if_pos (z_X3_fail ..)]
          exact hR
        · rewrite [if_neg h6]; simp only [if_neg h6] at hR
          try simp only [Option.bind_some]
          rewrite [if_pos (show kd (pt (pt (pt X e E) t Q) n U, J) e = 3 from hE.k)]
          rewrite [s_X3_readItem hE hT hN d_EQ d_EU d_QU]
          simp only [Option.bind_some, asI_I]
          try rewrite [if_pos (z_X3_readItem ..)]
          exact hR
  · rewrite [if_neg h1]; simp only [if_neg h1] at hR
    by_cases h7 : x2 = 125
    · rewrite [if_pos h7]; simp only [if_pos h7] at hR
      try rewrite [fI_ok 4 hE.k]
      try rewrite [Option.bind_some]
      try rewrite [pt_out (x := e) (a := n) (by have := d_EU; omega)]
      try rewrite [pt_out (x := e) (a := t) (by have := d_EQ; omega)]
      try rewrite [p1_0]
      by_cases h8 : (E 0 4) ≤ 0
      · rewrite [if_pos h8]; simp only [if_pos h8] at hR
        try simp only [Option.bind_some]
        rewrite [s_X9_isLetter ]
        simp only [Option.bind_some, asI_I]
        by_cases h9 : (q_X9_isLetter x2) = 0
        · rewrite [if_pos h9]; simp only [if_pos h9] at hR
          try rewrite [fI_ok 3 hE.k]
          try rewrite [Option.bind_some]
          try rewrite [pt_out (x := e) (a := n) (by have := d_EU; omega)]
          try rewrite [pt_out (x := e) (a := t) (by have := d_EQ; omega)]
          try rewrite [p1_0]
          try simp only [Option.bind_some]
          rewrite [if_pos (show kd (pt (pt (pt X e E) t Q) n U, J) e = 3 from hE.k)]
          rw [pt_comm X E Q d_EQ, pt_comm (pt X t Q) E U d_EU]
          rw [s_X3_fail hE]
          rw [pt_comm (pt X t Q) U (gE_X3_fail E 1 (E 0 3)) (Or.symm d_EU), pt_comm X Q (gE_X3_fail E 1 (E 0 3)) (Or.symm d_EQ)]
          simp only [Option.bind_some, asI_I]
          try rewrite [if_pos (z_X3_fail ..)]
          exact hR
        · rewrite [if_neg h9]; simp only [if_neg h9] at hR
          try simp only [Option.bind_some]
          rewrite [if_pos (show kd (pt (pt (pt X e E) t Q) n U, J) e = 3 from hE.k)]
          rewrite [s_X3_readItem hE hT hN d_EQ d_EU d_QU]
          simp only [Option.bind_some, asI_I]
          try rewrite [if_pos (z_X3_readItem ..)]
          exact hR
      · rewrite [if_neg h8]; simp only [if_neg h8] at hR
        try rewrite [fR_ok 0 hE.k]
        try rewrite [Option.bind_some]
        try rewrite [hE.r0]
        try rewrite [fI_ok 5 hE.k]
        try rewrite [Option.bind_some]
        try rewrite [pt_out (x := e) (a := n) (by have := d_EU; omega)]
        try rewrite [pt_out (x := e) (a := t) (by have := d_EQ; omega)]
        try rewrite [p1_0]
        try simp only [Option.bind_some]
        rewrite [if_pos (show kd (pt (pt (pt X e E) t Q) n U, J) n = 2 from hN.k)]
        rewrite [s_X2_parentOf hN]
        simp only [Option.bind_some, asI_I]
        try rewrite [wI_ok 5 _ hE.k]
        try rewrite [Option.bind_some]
        try rewrite [up_out (x := e) (a := n) (by have := d_EU; omega)]
        try rewrite [up_out (x := e) (a := t) (by have := d_EQ; omega)]
        try rewrite [u1_0]
        try rewrite [fI_ok 4 hE.k]
        try rewrite [Option.bind_some]
        try rewrite [pt_out (x := e) (a := n) (by have := d_EU; omega)]
        try rewrite [pt_out (x := e) (a := t) (by have := d_EQ; omega)]
        try rewrite [p1_0]
        try rewrite [uv_n _ _ _ _ _ _ (by decide)]
        try rewrite [wI_ok 4 _ hE.k]
        try rewrite [Option.bind_some]
        try rewrite [up_out (x := e) (a := n) (by have := d_EU; omega)]
        try rewrite [up_out (x := e) (a := t) (by have := d_EQ; omega)]
        try rewrite [u1_0]
        try rewrite [fI_ok 3 hE.k]
        try rewrite [Option.bind_some]
        try rewrite [pt_out (x := e) (a := n) (by have := d_EU; omega)]
        try rewrite [pt_out (x := e) (a := t) (by have := d_EQ; omega)]
        try rewrite [p1_0]
        try rewrite [uv_n _ _ _ _ _ _ (by decide)]
        try rewrite [uv_n _ _ _ _ _ _ (by decide)]
        try rewrite [wI_ok 3 _ hE.k]
        try rewrite [Option.bind_some]
        try rewrite [up_out (x := e) (a := n) (by have := d_EU; omega)]
        try rewrite [up_out (x := e) (a := t) (by have := d_EQ; omega)]
        try rewrite [u1_0]
        first | exact hR | (simp only [if_pos (show (0 : Int32) = 0 ∨ (0 : Int32) = 1 by decide), if_pos (show (1 : Int32) = 0 ∨ (1 : Int32) = 1 by decide)]; exact hR) | (simp; exact hR)
    · rewrite [if_neg h7]; simp only [if_neg h7] at hR
      try simp only [Option.bind_some]
      rewrite [s_X9_isLetter ]
      simp only [Option.bind_some, asI_I]
      by_cases h10 : (q_X9_isLetter x2) = 0
      · rewrite [if_pos h10]; simp only [if_pos h10] at hR
        try rewrite [fI_ok 3 hE.k]
        try rewrite [Option.bind_some]
        try rewrite [pt_out (x := e) (a := n) (by have := d_EU; omega)]
        try rewrite [pt_out (x := e) (a := t) (by have := d_EQ; omega)]
        try rewrite [p1_0]
        try simp only [Option.bind_some]
        rewrite [if_pos (show kd (pt (pt (pt X e E) t Q) n U, J) e = 3 from hE.k)]
        rw [pt_comm X E Q d_EQ, pt_comm (pt X t Q) E U d_EU]
        rw [s_X3_fail hE]
        rw [pt_comm (pt X t Q) U (gE_X3_fail E 1 (E 0 3)) (Or.symm d_EU), pt_comm X Q (gE_X3_fail E 1 (E 0 3)) (Or.symm d_EQ)]
        simp only [Option.bind_some, asI_I]
        try rewrite [if_pos (z_X3_fail ..)]
        exact hR
      · rewrite [if_neg h10]; simp only [if_neg h10] at hR
        try simp only [Option.bind_some]
        rewrite [if_pos (show kd (pt (pt (pt X e E) t Q) n U, J) e = 3 from hE.k)]
        rewrite [s_X3_readItem hE hT hN d_EQ d_EU d_QU]
        simp only [Option.bind_some, asI_I]
        try rewrite [if_pos (z_X3_readItem ..)]
        exact hR
theorem z_X3_readInside (E : OneV) (Q : RouV) (U : NodV) (x2 : Int32) : q_X3_readInside E Q U x2 = 0 ∨ q_X3_readInside E Q U x2 = 1 := by
  unfold q_X3_readInside
  by_cases k1 : x2 = 59
  · simp only [if_pos k1]
    by_cases k2 : (E 0 4) = 0
    · simp only [if_pos k2]
      first | exact Or.inr rfl | simp
    · simp only [if_neg k2]
      by_cases k3 : x2 = 125
      · simp only [if_pos k3]
        by_cases k4 : (E 0 4) ≤ 0
        · simp only [if_pos k4]
          by_cases k5 : (q_X9_isLetter x2) = 0
          · simp only [if_pos k5]
            exact z_X3_fail ..
          · simp only [if_neg k5]
            exact z_X3_readItem ..
        · simp only [if_neg k4]
          first | exact Or.inr rfl | simp
      · simp only [if_neg k3]
        by_cases k4 : (q_X9_isLetter x2) = 0
        · simp only [if_pos k4]
          exact z_X3_fail ..
        · simp only [if_neg k4]
          exact z_X3_readItem ..
  · simp only [if_neg k1]
    by_cases k2 : x2 = 125
    · simp only [if_pos k2]
      by_cases k3 : (E 0 4) ≤ 0
      · simp only [if_pos k3]
        by_cases k4 : (q_X9_isLetter x2) = 0
        · simp only [if_pos k4]
          exact z_X3_fail ..
        · simp only [if_neg k4]
          exact z_X3_readItem ..
      · simp only [if_neg k3]
        first | exact Or.inr rfl | simp
    · simp only [if_neg k2]
      by_cases k3 : (q_X9_isLetter x2) = 0
      · simp only [if_pos k3]
        exact z_X3_fail ..
      · simp only [if_neg k3]
        exact z_X3_readItem ..
theorem P_X3_readTrees {J : MJ} {e n t : Nat} (hE : RdrL J e n) (hT : TapL J t) (hN : NodL J n) (d_EQ : e + 1 ≤ t ∨ t + 2 ≤ e) (d_EU : e + 1 ≤ n ∨ n + 6 ≤ e) (d_QU : t + 2 ≤ n ∨ n + 6 ≤ t) (X : MI) (E : OneV) (Q : RouV) (U : NodV) : M_X3_readTrees [mR (some e), mR (some t)] (pt (pt (pt X e E) t Q) n U, J) = Ev T_X3_readTrees 41 [some (mR (some e)), some (mR (some t)), some (mI 1), some (mI 0), none] [] (pt (pt (pt X e (uv (uv (uv (uv (uv (uv E 0 1 0) 0 2 ((-1))) 0 3 0) 0 4 0) 0 5 ((-1))) 0 6 0)) t Q) n (gU_X2_clear U), J) := by
  generalize hR : Ev T_X3_readTrees 41 [some (mR (some e)), some (mR (some t)), some (mI 1), some (mI 0), none] [] (pt (pt (pt X e (uv (uv (uv (uv (uv (uv E 0 1 0) 0 2 ((-1))) 0 3 0) 0 4 0) 0 5 ((-1))) 0 6 0)) t Q) n (gU_X2_clear U), J) = R
  rw [E_X3_readTrees]
  try rewrite [fR_ok 0 hE.k]
  try rewrite [Option.bind_some]
  try rewrite [hE.r0]
  try simp only [Option.bind_some]
  rewrite [if_pos (show kd (pt (pt (pt X e E) t Q) n U, J) n = 2 from hN.k)]
  rewrite [s_X2_clear hN]
  simp only [Option.bind_some, asV_n]
  try rewrite [wI_ok 1 _ hE.k]
  try rewrite [Option.bind_some]
  try rewrite [up_out (x := e) (a := n) (by have := d_EU; omega)]
  try rewrite [up_out (x := e) (a := t) (by have := d_EQ; omega)]
  try rewrite [u1_0]
  try rewrite [wI_ok 2 _ hE.k]
  try rewrite [Option.bind_some]
  try rewrite [up_out (x := e) (a := n) (by have := d_EU; omega)]
  try rewrite [up_out (x := e) (a := t) (by have := d_EQ; omega)]
  try rewrite [u1_0]
  try rewrite [wI_ok 3 _ hE.k]
  try rewrite [Option.bind_some]
  try rewrite [up_out (x := e) (a := n) (by have := d_EU; omega)]
  try rewrite [up_out (x := e) (a := t) (by have := d_EQ; omega)]
  try rewrite [u1_0]
  try rewrite [wI_ok 4 _ hE.k]
  try rewrite [Option.bind_some]
  try rewrite [up_out (x := e) (a := n) (by have := d_EU; omega)]
  try rewrite [up_out (x := e) (a := t) (by have := d_EQ; omega)]
  try rewrite [u1_0]
  try rewrite [wI_ok 5 _ hE.k]
  try rewrite [Option.bind_some]
  try rewrite [up_out (x := e) (a := n) (by have := d_EU; omega)]
  try rewrite [up_out (x := e) (a := t) (by have := d_EQ; omega)]
  try rewrite [u1_0]
  try rewrite [wZ_ok 6 _ hE.k (by decide)]
  try rewrite [Option.bind_some]
  try rewrite [up_out (x := e) (a := n) (by have := d_EU; omega)]
  try rewrite [up_out (x := e) (a := t) (by have := d_EQ; omega)]
  try rewrite [u1_0]
  exact hR
theorem P_X3_readTrees_41 {J : MJ} {e n t : Nat} (hE : RdrL J e n) (hT : TapL J t) (hN : NodL J n) (d_EQ : e + 1 ≤ t ∨ t + 2 ≤ e) (d_EU : e + 1 ≤ n ∨ n + 6 ≤ e) (d_QU : t + 2 ≤ n ∨ n + 6 ≤ t) (X : MI) (E : OneV) (Q : RouV) (U : NodV) (x2 : Int32) (x3 : Int32) : Ev T_X3_readTrees 41 [some (mR (some e)), some (mR (some t)), some (mI x2), some (mI x3), none] [] (pt (pt (pt X e E) t Q) n U, J) = (if x2 = 0 then (if (E 0 1) = 0 then some (some (mI 1), (pt (pt (pt X e E) t Q) n U, J)) else some (some (mI 0), (pt (pt (pt X e E) t Q) n U, J))) else (if (800 : Int32) < x3 then (if (E 0 1) = 0 then some (some (mI 1), (pt (pt (pt X e E) t Q) n U, J)) else some (some (mI 0), (pt (pt (pt X e E) t Q) n U, J))) else (if (bz ((gE_X3_skipBlanks E Q) 0 6)) = 0 then Ev T_X3_readTrees 41 [some (mR (some e)), some (mR (some t)), some (mI (q_X3_readOutside (gE_X3_skipBlanks E Q) U (q_X5_at Q ((gE_X3_skipBlanks E Q) 0 3)))), some (mI (x3 + 1)), none] [] (pt (pt (pt X e (gE_X3_readOutside (gE_X3_skipBlanks E Q) U (q_X5_at Q ((gE_X3_skipBlanks E Q) 0 3)))) t Q) n (gU_X3_readOutside (gE_X3_skipBlanks E Q) U (q_X5_at Q ((gE_X3_skipBlanks E Q) 0 3))), J) else Ev T_X3_readTrees 41 [some (mR (some e)), some (mR (some t)), some (mI (q_X3_readInside (gE_X3_skipBlanks E Q) Q U (q_X5_at Q ((gE_X3_skipBlanks E Q) 0 3)))), some (mI (x3 + 1)), none] [] (pt (pt (pt X e (gE_X3_readInside (gE_X3_skipBlanks E Q) Q U (q_X5_at Q ((gE_X3_skipBlanks E Q) 0 3)))) t Q) n (gU_X3_readInside (gE_X3_skipBlanks E Q) Q U (q_X5_at Q ((gE_X3_skipBlanks E Q) 0 3))), J)))) := by
  generalize hR : (if x2 = 0 then (if (E 0 1) = 0 then some (some (mI 1), (pt (pt (pt X e E) t Q) n U, J)) else some (some (mI 0), (pt (pt (pt X e E) t Q) n U, J))) else (if (800 : Int32) < x3 then (if (E 0 1) = 0 then some (some (mI 1), (pt (pt (pt X e E) t Q) n U, J)) else some (some (mI 0), (pt (pt (pt X e E) t Q) n U, J))) else (if (bz ((gE_X3_skipBlanks E Q) 0 6)) = 0 then Ev T_X3_readTrees 41 [some (mR (some e)), some (mR (some t)), some (mI (q_X3_readOutside (gE_X3_skipBlanks E Q) U (q_X5_at Q ((gE_X3_skipBlanks E Q) 0 3)))), some (mI (x3 + 1)), none] [] (pt (pt (pt X e (gE_X3_readOutside (gE_X3_skipBlanks E Q) U (q_X5_at Q ((gE_X3_skipBlanks E Q) 0 3)))) t Q) n (gU_X3_readOutside (gE_X3_skipBlanks E Q) U (q_X5_at Q ((gE_X3_skipBlanks E Q) 0 3))), J) else Ev T_X3_readTrees 41 [some (mR (some e)), some (mR (some t)), some (mI (q_X3_readInside (gE_X3_skipBlanks E Q) Q U (q_X5_at Q ((gE_X3_skipBlanks E Q) 0 3)))), some (mI (x3 + 1)), none] [] (pt (pt (pt X e (gE_X3_readInside (gE_X3_skipBlanks E Q) Q U (q_X5_at Q ((gE_X3_skipBlanks E Q) 0 3)))) t Q) n (gU_X3_readInside (gE_X3_skipBlanks E Q) Q U (q_X5_at Q ((gE_X3_skipBlanks E Q) 0 3))), J)))) = R
  rw [E_X3_readTrees_41]
  by_cases h1 : x2 = 0
  · rewrite [if_pos h1]; simp only [if_pos h1] at hR
    try rewrite [fI_ok 1 hE.k]
    try rewrite [Option.bind_some]
    try rewrite [pt_out (x := e) (a := n) (by have := d_EU; omega)]
    try rewrite [pt_out (x := e) (a := t) (by have := d_EQ; omega)]
    try rewrite [p1_0]
    by_cases h2 : (E 0 1) = 0
    · rewrite [if_pos h2]; simp only [if_pos h2] at hR
      first | exact hR | (simp only [if_pos (show (0 : Int32) = 0 ∨ (0 : Int32) = 1 by decide), if_pos (show (1 : Int32) = 0 ∨ (1 : Int32) = 1 by decide)]; exact hR) | (simp; exact hR)
    · rewrite [if_neg h2]; simp only [if_neg h2] at hR
      first | exact hR | (simp only [if_pos (show (0 : Int32) = 0 ∨ (0 : Int32) = 1 by decide), if_pos (show (1 : Int32) = 0 ∨ (1 : Int32) = 1 by decide)]; exact hR) | (simp; exact hR)
  · rewrite [if_neg h1]; simp only [if_neg h1] at hR
    by_cases h3 : (800 : Int32) < x3
    · rewrite [if_pos h3]; simp only [if_pos h3] at hR
      try rewrite [fI_ok 1 hE.k]
      try rewrite [Option.bind_some]
      try rewrite [pt_out (x := e) (a := n) (by have := d_EU; omega)]
      try rewrite [pt_out (x := e) (a := t) (by have := d_EQ; omega)]
      try rewrite [p1_0]
      by_cases h4 : (E 0 1) = 0
      · rewrite [if_pos h4]; simp only [if_pos h4] at hR
        first | exact hR | (simp only [if_pos (show (0 : Int32) = 0 ∨ (0 : Int32) = 1 by decide), if_pos (show (1 : Int32) = 0 ∨ (1 : Int32) = 1 by decide)]; exact hR) | (simp; exact hR)
      · rewrite [if_neg h4]; simp only [if_neg h4] at hR
        first | exact hR | (simp only [if_pos (show (0 : Int32) = 0 ∨ (0 : Int32) = 1 by decide), if_pos (show (1 : Int32) = 0 ∨ (1 : Int32) = 1 by decide)]; exact hR) | (simp; exact hR)
    · rewrite [if_neg h3]; simp only [if_neg h3] at hR
      try simp only [Option.bind_some]
      rewrite [if_pos (show kd (pt (pt (pt X e E) t Q) n U, J) e = 3 from hE.k)]
      rw [pt_comm (pt X e E) Q U d_QU, pt_comm X E U d_EU]
      rw [s_X3_skipBlanks hE hT d_EQ]
      rw [pt_comm X U (gE_X3_skipBlanks E Q) (Or.symm d_EU), pt_comm (pt X e (gE_X3_skipBlanks E Q)) U Q (Or.symm d_QU)]
      simp only [Option.bind_some, asV_n]
      try rewrite [fI_ok 3 hE.k]
      try rewrite [Option.bind_some]
      try rewrite [pt_out (x := e) (a := n) (by have := d_EU; omega)]
      try rewrite [pt_out (x := e) (a := t) (by have := d_EQ; omega)]
      try rewrite [p1_0]
      try simp only [Option.bind_some]
      rewrite [if_pos (show kd (pt (pt (pt X e (gE_X3_skipBlanks E Q)) t Q) n U, J) t = 5 from hT.k)]
      rw [pt_comm (pt X e (gE_X3_skipBlanks E Q)) Q U d_QU]
      rw [s_X5_at hT]
      rw [pt_comm (pt X e (gE_X3_skipBlanks E Q)) U Q (Or.symm d_QU)]
      simp only [Option.bind_some, asI_I]
      try rewrite [fZ_ok 6 hE.k]
      try rewrite [Option.bind_some]
      try rewrite [pt_out (x := e) (a := n) (by have := d_EU; omega)]
      try rewrite [pt_out (x := e) (a := t) (by have := d_EQ; omega)]
      try rewrite [p1_0]
      by_cases h5 : (bz ((gE_X3_skipBlanks E Q) 0 6)) = 0
      · rewrite [if_pos h5]; simp only [if_pos h5] at hR
        try simp only [Option.bind_some]
        rewrite [if_pos (show kd (pt (pt (pt X e (gE_X3_skipBlanks E Q)) t Q) n U, J) e = 3 from hE.k)]
        rw [pt_comm X (gE_X3_skipBlanks E Q) Q d_EQ]
        rw [s_X3_readOutside hE hN d_EU]
        rw [pt_comm X Q (gE_X3_readOutside (gE_X3_skipBlanks E Q) U (q_X5_at Q ((gE_X3_skipBlanks E Q) 0 3))) (Or.symm d_EQ)]
        simp only [Option.bind_some, asI_I]
        exact hR
      · rewrite [if_neg h5]; simp only [if_neg h5] at hR
        try simp only [Option.bind_some]
        rewrite [if_pos (show kd (pt (pt (pt X e (gE_X3_skipBlanks E Q)) t Q) n U, J) e = 3 from hE.k)]
        rewrite [s_X3_readInside hE hT hN d_EQ d_EU d_QU]
        simp only [Option.bind_some, asI_I]
        exact hR
def lp_X3_readTrees_41 (Q : RouV) : Nat → Nat → Int32 → OneV → NodV → Int32 × OneV × NodV
  | 0, k, x2, E, U => (if x2 = 0 then (if (E 0 1) = 0 then (1, E, U) else (0, E, U)) else (if (E 0 1) = 0 then (1, E, U) else (0, E, U)))
  | nn + 1, k, x2, E, U => (if x2 = 0 then (if (E 0 1) = 0 then (1, E, U) else (0, E, U)) else (if (bz ((gE_X3_skipBlanks E Q) 0 6)) = 0 then lp_X3_readTrees_41 Q nn (k + 1) (q_X3_readOutside (gE_X3_skipBlanks E Q) U (q_X5_at Q ((gE_X3_skipBlanks E Q) 0 3))) (gE_X3_readOutside (gE_X3_skipBlanks E Q) U (q_X5_at Q ((gE_X3_skipBlanks E Q) 0 3))) (gU_X3_readOutside (gE_X3_skipBlanks E Q) U (q_X5_at Q ((gE_X3_skipBlanks E Q) 0 3))) else lp_X3_readTrees_41 Q nn (k + 1) (q_X3_readInside (gE_X3_skipBlanks E Q) Q U (q_X5_at Q ((gE_X3_skipBlanks E Q) 0 3))) (gE_X3_readInside (gE_X3_skipBlanks E Q) Q U (q_X5_at Q ((gE_X3_skipBlanks E Q) 0 3))) (gU_X3_readInside (gE_X3_skipBlanks E Q) Q U (q_X5_at Q ((gE_X3_skipBlanks E Q) 0 3)))))
theorem lr_X3_readTrees_41 {J : MJ} {e n t : Nat} (hE : RdrL J e n) (hT : TapL J t) (hN : NodL J n) (d_EQ : e + 1 ≤ t ∨ t + 2 ≤ e) (d_EU : e + 1 ≤ n ∨ n + 6 ≤ e) (d_QU : t + 2 ≤ n ∨ n + 6 ≤ t) (X : MI) (Q : RouV) : ∀ (nn k : Nat) (x2 : Int32) (E : OneV) (U : NodV), k + nn = 801 → Ev T_X3_readTrees 41 [some (mR (some e)), some (mR (some t)), some (mI x2), some (mI (nI k)), none] [] (pt (pt (pt X e E) t Q) n U, J) = some (some (mI ((lp_X3_readTrees_41 Q nn k x2 E U).1)), (pt (pt (pt X e ((lp_X3_readTrees_41 Q nn k x2 E U).2.1)) t Q) n ((lp_X3_readTrees_41 Q nn k x2 E U).2.2), J)) := by
  intro nn
  induction nn with
  | zero =>
    intro k x2 E U hk
    have hk : k = 801 := by omega
    subst hk
    generalize hR : some (some (mI ((lp_X3_readTrees_41 Q 0 801 x2 E U).1)), (pt (pt (pt X e ((lp_X3_readTrees_41 Q 0 801 x2 E U).2.1)) t Q) n ((lp_X3_readTrees_41 Q 0 801 x2 E U).2.2), J)) = R
    rw [lp_X3_readTrees_41] at hR
    rw [P_X3_readTrees_41 hE hT hN d_EQ d_EU d_QU _ _ _ _ _ _]
    by_cases k1 : x2 = 0
    · rewrite [if_pos k1]; simp only [if_pos k1] at hR
      by_cases k2 : (E 0 1) = 0
      · rewrite [if_pos k2]; simp only [if_pos k2] at hR
        exact hR
      · rewrite [if_neg k2]; simp only [if_neg k2] at hR
        exact hR
    · rewrite [if_neg k1]; simp only [if_neg k1] at hR
      rewrite [if_pos (show (800 : Int32) < nI 801 by decide)]
      by_cases k2 : (E 0 1) = 0
      · rewrite [if_pos k2]; simp only [if_pos k2] at hR
        exact hR
      · rewrite [if_neg k2]; simp only [if_neg k2] at hR
        exact hR
  | succ nn ih =>
    intro k x2 E U hk
    generalize hR : some (some (mI ((lp_X3_readTrees_41 Q (nn + 1) k x2 E U).1)), (pt (pt (pt X e ((lp_X3_readTrees_41 Q (nn + 1) k x2 E U).2.1)) t Q) n ((lp_X3_readTrees_41 Q (nn + 1) k x2 E U).2.2), J)) = R
    rw [lp_X3_readTrees_41] at hR
    rw [P_X3_readTrees_41 hE hT hN d_EQ d_EU d_QU _ _ _ _ _ _]
    try rw [ix_nI (by omega)]
    rw [nI_1 k]
    by_cases k1 : x2 = 0
    · rewrite [if_pos k1]; simp only [if_pos k1] at hR
      by_cases k2 : (E 0 1) = 0
      · rewrite [if_pos k2]; simp only [if_pos k2] at hR
        exact hR
      · rewrite [if_neg k2]; simp only [if_neg k2] at hR
        exact hR
    · rewrite [if_neg k1]; simp only [if_neg k1] at hR
      rewrite [if_neg (show ¬ (800 : Int32) < nI k by rw [i32_lt, nI_toInt (by omega)]; exact fun h => absurd h (by show ¬ ((800 : Int) < _); omega))]
      by_cases k2 : (bz ((gE_X3_skipBlanks E Q) 0 6)) = 0
      · rewrite [if_pos k2]; simp only [if_pos k2] at hR
        exact (ih (k + 1) _ _ _ (by omega)).trans hR
      · rewrite [if_neg k2]; simp only [if_neg k2] at hR
        exact (ih (k + 1) _ _ _ (by omega)).trans hR
def o_X3_readTrees (E : OneV) (Q : RouV) (U : NodV)  : Int32 × OneV × NodV := lp_X3_readTrees_41 Q 801 0 1 (uv (uv (uv (uv (uv (uv E 0 1 0) 0 2 ((-1))) 0 3 0) 0 4 0) 0 5 ((-1))) 0 6 0) (gU_X2_clear U)
def q_X3_readTrees (E : OneV) (Q : RouV) (U : NodV)  : Int32 := (o_X3_readTrees E Q U).1
def gE_X3_readTrees (E : OneV) (Q : RouV) (U : NodV)  : OneV := (o_X3_readTrees E Q U).2.1
def gU_X3_readTrees (E : OneV) (Q : RouV) (U : NodV)  : NodV := (o_X3_readTrees E Q U).2.2
theorem s_X3_readTrees {J : MJ} {e n t : Nat} (hE : RdrL J e n) (hT : TapL J t) (hN : NodL J n) (d_EQ : e + 1 ≤ t ∨ t + 2 ≤ e) (d_EU : e + 1 ≤ n ∨ n + 6 ≤ e) (d_QU : t + 2 ≤ n ∨ n + 6 ≤ t) (X : MI) (E : OneV) (Q : RouV) (U : NodV)  : M_X3_readTrees [mR (some e), mR (some t)] (pt (pt (pt X e E) t Q) n U, J) = some (some (mI (q_X3_readTrees E Q U)), (pt (pt (pt X e ((gE_X3_readTrees E Q U))) t Q) n ((gU_X3_readTrees E Q U)), J)) := by
  generalize hR : some (some (mI (q_X3_readTrees E Q U)), (pt (pt (pt X e ((gE_X3_readTrees E Q U))) t Q) n ((gU_X3_readTrees E Q U)), J)) = R
  rw [P_X3_readTrees hE hT hN d_EQ d_EU d_QU]
  unfold q_X3_readTrees gE_X3_readTrees gU_X3_readTrees o_X3_readTrees at hR
  have z := lr_X3_readTrees_41 hE hT hN d_EQ d_EU d_QU X Q 801 0 1 (uv (uv (uv (uv (uv (uv E 0 1 0) 0 2 ((-1))) 0 3 0) 0 4 0) 0 5 ((-1))) 0 6 0) (gU_X2_clear U) (Nat.zero_add _)
  rw [show nI 0 = 0 from rfl] at z
  rw [z]
  rw [← hR]

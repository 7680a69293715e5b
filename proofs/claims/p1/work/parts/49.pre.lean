/-! Walks of loops that part 50 closes. Written by gen/run5.py. -/
theorem P_X3_skipBlanks {J : MJ} {e n t : Nat} (hE : RdrL J e n) (hT : TapL J t) (d_EQ : e + 1 ≤ t ∨ t + 2 ≤ e) (X : MI) (E : OneV) (Q : RouV) : M_X3_skipBlanks [mR (some e), mR (some t)] (pt (pt X e E) t Q, J) = (if (Q 0 1) ≤ (E 0 3) then some (none, (pt (pt X e E) t Q, J)) else (if (q_X5_at Q (E 0 3)) = 32 then Ev T_X3_skipBlanks 0 [some (mR (some e)), some (mR (some t))] [] (pt (pt X e (uv E 0 3 ((E 0 3) + 1))) t Q, J) else (if (q_X5_at Q (E 0 3)) = 10 then Ev T_X3_skipBlanks 0 [some (mR (some e)), some (mR (some t))] [] (pt (pt X e (uv E 0 3 ((E 0 3) + 1))) t Q, J) else some (none, (pt (pt X e E) t Q, J))))) := by
  generalize hR : (if (Q 0 1) ≤ (E 0 3) then some (none, (pt (pt X e E) t Q, J)) else (if (q_X5_at Q (E 0 3)) = 32 then Ev T_X3_skipBlanks 0 [some (mR (some e)), some (mR (some t))] [] (pt (pt X e (uv E 0 3 ((E 0 3) + 1))) t Q, J) else (if (q_X5_at Q (E 0 3)) = 10 then Ev T_X3_skipBlanks 0 [some (mR (some e)), some (mR (some t))] [] (pt (pt X e (uv E 0 3 ((E 0 3) + 1))) t Q, J) else some (none, (pt (pt X e E) t Q, J))))) = R
  rw [E_X3_skipBlanks, E_X3_skipBlanks_0]
  try rewrite [fI_ok 3 hE.k]
  try rewrite [Option.bind_some]
  try rewrite [pt_out (x := e) (a := t) (by have := d_EQ; omega)]
  try rewrite [p1_0]
  try rewrite [fI_ok 1 hT.k]
  try rewrite [Option.bind_some]
  try rewrite [p2_0]
  by_cases h1 : (Q 0 1) ≤ (E 0 3)
  · rewrite [if_pos h1]; simp only [if_pos h1] at hR
    exact hR
  · rewrite [if_neg h1]; simp only [if_neg h1] at hR
    try rewrite [fI_ok 3 hE.k]
    try rewrite [Option.bind_some]
    try rewrite [pt_out (x := e) (a := t) (by have := d_EQ; omega)]
    try rewrite [p1_0]
    try simp only [Option.bind_some]
    rewrite [if_pos (show kd (pt (pt X e E) t Q, J) t = 5 from hT.k)]
    rewrite [s_X5_at hT]
    simp only [Option.bind_some, asI_I]
    by_cases h2 : (q_X5_at Q (E 0 3)) = 32
    · rewrite [if_pos h2]; simp only [if_pos h2] at hR
      try rewrite [fI_ok 3 hE.k]
      try rewrite [Option.bind_some]
      try rewrite [pt_out (x := e) (a := t) (by have := d_EQ; omega)]
      try rewrite [p1_0]
      try rewrite [wI_ok 3 _ hE.k]
      try rewrite [Option.bind_some]
      try rewrite [up_out (x := e) (a := t) (by have := d_EQ; omega)]
      try rewrite [u1_0]
      exact hR
    · rewrite [if_neg h2]; simp only [if_neg h2] at hR
      try rewrite [fI_ok 3 hE.k]
      try rewrite [Option.bind_some]
      try rewrite [pt_out (x := e) (a := t) (by have := d_EQ; omega)]
      try rewrite [p1_0]
      try simp only [Option.bind_some]
      rewrite [if_pos (show kd (pt (pt X e E) t Q, J) t = 5 from hT.k)]
      rewrite [s_X5_at hT]
      simp only [Option.bind_some, asI_I]
      by_cases h3 : (q_X5_at Q (E 0 3)) = 10
      · rewrite [if_pos h3]; simp only [if_pos h3] at hR
        try rewrite [fI_ok 3 hE.k]
        try rewrite [Option.bind_some]
        try rewrite [pt_out (x := e) (a := t) (by have := d_EQ; omega)]
        try rewrite [p1_0]
        try rewrite [wI_ok 3 _ hE.k]
        try rewrite [Option.bind_some]
        try rewrite [up_out (x := e) (a := t) (by have := d_EQ; omega)]
        try rewrite [u1_0]
        exact hR
      · rewrite [if_neg h3]; simp only [if_neg h3] at hR
        exact hR
theorem P_X4_readFrom {J : MJ} {t r L : Nat} (hT : TapL J t) (hP : RouL J r L) (d_QP : t + 2 ≤ r ∨ r + 2 ≤ t) (X : MI) (Q : RouV) (P : RouV) (x2 : Int32) (x3 : Int32) : M_X4_readFrom [mR (some r), mR (some t), mI x2, mI x3] (pt (pt X t Q) r P, J) = (if (x3 - x2) = 1 then (if (q_X5_at Q x2) = 47 then some (some (mI 1), (pt (pt X t Q) r (uv P 0 1 0), J)) else some (some (mI 0), (pt (pt X t Q) r (uv P 0 1 0), J))) else Ev T_X4_readFrom 34 [some (mR (some r)), some (mR (some t)), none, some (mI x3), some (mI x2), some (mI 0), none, none] [] (pt (pt X t Q) r (uv P 0 1 0), J)) := by
  generalize hR : (if (x3 - x2) = 1 then (if (q_X5_at Q x2) = 47 then some (some (mI 1), (pt (pt X t Q) r (uv P 0 1 0), J)) else some (some (mI 0), (pt (pt X t Q) r (uv P 0 1 0), J))) else Ev T_X4_readFrom 34 [some (mR (some r)), some (mR (some t)), none, some (mI x3), some (mI x2), some (mI 0), none, none] [] (pt (pt X t Q) r (uv P 0 1 0), J)) = R
  rw [E_X4_readFrom]
  try rewrite [wI_ok 1 _ hP.k]
  try rewrite [Option.bind_some]
  try rewrite [u2_0]
  by_cases h1 : (x3 - x2) = 1
  · rewrite [if_pos h1]; simp only [if_pos h1] at hR
    try simp only [Option.bind_some]
    rewrite [if_pos (show kd (pt (pt X t Q) r (uv P 0 1 0), J) t = 5 from hT.k)]
    rw [pt_comm X Q (uv P 0 1 0) d_QP]
    rw [s_X5_at hT]
    rw [pt_comm X (uv P 0 1 0) Q (Or.symm d_QP)]
    simp only [Option.bind_some, asI_I]
    by_cases h2 : (q_X5_at Q x2) = 47
    · rewrite [if_pos h2]; simp only [if_pos h2] at hR
      first | exact hR | (simp only [if_pos (show (0 : Int32) = 0 ∨ (0 : Int32) = 1 by decide), if_pos (show (1 : Int32) = 0 ∨ (1 : Int32) = 1 by decide)]; exact hR) | (simp; exact hR)
    · rewrite [if_neg h2]; simp only [if_neg h2] at hR
      first | exact hR | (simp only [if_pos (show (0 : Int32) = 0 ∨ (0 : Int32) = 1 by decide), if_pos (show (1 : Int32) = 0 ∨ (1 : Int32) = 1 by decide)]; exact hR) | (simp; exact hR)
  · rewrite [if_neg h1]; simp only [if_neg h1] at hR
    exact hR
theorem P_X4_readFrom_34 {J : MJ} {t r L : Nat} (hT : TapL J t) (hP : RouL J r L) (d_QP : t + 2 ≤ r ∨ r + 2 ≤ t) (X : MI) (Q : RouV) (P : RouV) (x3 : Int32) (x4 : Int32) (x5 : Int32) : Ev T_X4_readFrom 34 [some (mR (some r)), some (mR (some t)), none, some (mI x3), some (mI x4), some (mI x5), none, none] [] (pt (pt X t Q) r P, J) = (if (nI L) < x5 then (if (P 0 1) ≤ 0 then some (some (mI 0), (pt (pt X t Q) r P, J)) else some (some (mI 1), (pt (pt X t Q) r P, J))) else (if x3 ≤ x4 then (if (P 0 1) ≤ 0 then some (some (mI 0), (pt (pt X t Q) r P, J)) else some (some (mI 1), (pt (pt X t Q) r P, J))) else (if (q_X5_at Q x4) = 47 then (if (q_X9_stepBetween Q (x4 + 1) (q_X4_endOfStep Q (x4 + 1) x3)) = 0 then some (some (mI 0), (pt (pt X t Q) r P, J)) else (if (q_X4_push L P (q_X9_stepBetween Q (x4 + 1) (q_X4_endOfStep Q (x4 + 1) x3))) = 0 then some (some (mI 0), (pt (pt X t Q) r (gP_X4_push L P (q_X9_stepBetween Q (x4 + 1) (q_X4_endOfStep Q (x4 + 1) x3))), J)) else Ev T_X4_readFrom 34 [some (mR (some r)), some (mR (some t)), none, some (mI x3), some (mI (q_X4_endOfStep Q (x4 + 1) x3)), some (mI (x5 + 1)), none, none] [] (pt (pt X t Q) r (gP_X4_push L P (q_X9_stepBetween Q (x4 + 1) (q_X4_endOfStep Q (x4 + 1) x3))), J))) else some (some (mI 0), (pt (pt X t Q) r P, J))))) := by
  generalize hR : (if (nI L) < x5 then (if (P 0 1) ≤ 0 then some (some (mI 0), (pt (pt X t Q) r P, J)) else some (some (mI 1), (pt (pt X t Q) r P, J))) else (if x3 ≤ x4 then (if (P 0 1) ≤ 0 then some (some (mI 0), (pt (pt X t Q) r P, J)) else some (some (mI 1), (pt (pt X t Q) r P, J))) else (if (q_X5_at Q x4) = 47 then (if (q_X9_stepBetween Q (x4 + 1) (q_X4_endOfStep Q (x4 + 1) x3)) = 0 then some (some (mI 0), (pt (pt X t Q) r P, J)) else (if (q_X4_push L P (q_X9_stepBetween Q (x4 + 1) (q_X4_endOfStep Q (x4 + 1) x3))) = 0 then some (some (mI 0), (pt (pt X t Q) r (gP_X4_push L P (q_X9_stepBetween Q (x4 + 1) (q_X4_endOfStep Q (x4 + 1) x3))), J)) else Ev T_X4_readFrom 34 [some (mR (some r)), some (mR (some t)), none, some (mI x3), some (mI (q_X4_endOfStep Q (x4 + 1) x3)), some (mI (x5 + 1)), none, none] [] (pt (pt X t Q) r (gP_X4_push L P (q_X9_stepBetween Q (x4 + 1) (q_X4_endOfStep Q (x4 + 1) x3))), J))) else some (some (mI 0), (pt (pt X t Q) r P, J))))) = R
  rw [E_X4_readFrom_34]
  try rewrite [fR_ok 0 hP.k]
  try rewrite [Option.bind_some]
  try rewrite [hP.r1]
  try simp only [Option.bind_some]
  try rewrite [aln_ok hP.s1 (by decide)]
  try rewrite [Option.bind_some]
  by_cases h1 : (nI L) < x5
  · rewrite [if_pos h1]; simp only [if_pos h1] at hR
    try rewrite [fI_ok 1 hP.k]
    try rewrite [Option.bind_some]
    try rewrite [p2_0]
    by_cases h2 : (P 0 1) ≤ 0
    · rewrite [if_pos h2]; simp only [if_pos h2] at hR
      first | exact hR | (simp only [if_pos (show (0 : Int32) = 0 ∨ (0 : Int32) = 1 by decide), if_pos (show (1 : Int32) = 0 ∨ (1 : Int32) = 1 by decide)]; exact hR) | (simp; exact hR)
    · rewrite [if_neg h2]; simp only [if_neg h2] at hR
      first | exact hR | (simp only [if_pos (show (0 : Int32) = 0 ∨ (0 : Int32) = 1 by decide), if_pos (show (1 : Int32) = 0 ∨ (1 : Int32) = 1 by decide)]; exact hR) | (simp; exact hR)
  · rewrite [if_neg h1]; simp only [if_neg h1] at hR
    by_cases h3 : x3 ≤ x4
    · rewrite [if_pos h3]; simp only [if_pos h3] at hR
      try rewrite [fI_ok 1 hP.k]
      try rewrite [Option.bind_some]
      try rewrite [p2_0]
      by_cases h4 : (P 0 1) ≤ 0
      · rewrite [if_pos h4]; simp only [if_pos h4] at hR
        first | exact hR | (simp only [if_pos (show (0 : Int32) = 0 ∨ (0 : Int32) = 1 by decide), if_pos (show (1 : Int32) = 0 ∨ (1 : Int32) = 1 by decide)]; exact hR) | (simp; exact hR)
      · rewrite [if_neg h4]; simp only [if_neg h4] at hR
        first | exact hR | (simp only [if_pos (show (0 : Int32) = 0 ∨ (0 : Int32) = 1 by decide), if_pos (show (1 : Int32) = 0 ∨ (1 : Int32) = 1 by decide)]; exact hR) | (simp; exact hR)
    · rewrite [if_neg h3]; simp only [if_neg h3] at hR
      try simp only [Option.bind_some]
      rw [pt_comm X Q P d_QP]
      rw [s_X4_endOfStep hT]
      rw [pt_comm X P Q (Or.symm d_QP)]
      simp only [Option.bind_some, asI_I]
      try simp only [Option.bind_some]
      rw [pt_comm X Q P d_QP]
      rw [s_X9_stepBetween hT]
      rw [pt_comm X P Q (Or.symm d_QP)]
      simp only [Option.bind_some, asI_I]
      try simp only [Option.bind_some]
      rewrite [if_pos (show kd (pt (pt X t Q) r P, J) t = 5 from hT.k)]
      rw [pt_comm X Q P d_QP]
      rw [s_X5_at hT]
      rw [pt_comm X P Q (Or.symm d_QP)]
      simp only [Option.bind_some, asI_I]
      by_cases h5 : (q_X5_at Q x4) = 47
      · rewrite [if_pos h5]; simp only [if_pos h5] at hR
        by_cases h6 : (q_X9_stepBetween Q (x4 + 1) (q_X4_endOfStep Q (x4 + 1) x3)) = 0
        · rewrite [if_pos h6]; simp only [if_pos h6] at hR
          first | exact hR | (simp only [if_pos (show (0 : Int32) = 0 ∨ (0 : Int32) = 1 by decide), if_pos (show (1 : Int32) = 0 ∨ (1 : Int32) = 1 by decide)]; exact hR) | (simp; exact hR)
        · rewrite [if_neg h6]; simp only [if_neg h6] at hR
          try simp only [Option.bind_some]
          rewrite [if_pos (show kd (pt (pt X t Q) r P, J) r = 4 from hP.k)]
          rewrite [s_X4_push hP]
          simp only [Option.bind_some, asI_I]
          by_cases h7 : (q_X4_push L P (q_X9_stepBetween Q (x4 + 1) (q_X4_endOfStep Q (x4 + 1) x3))) = 0
          · rewrite [if_pos h7]; simp only [if_pos h7] at hR
            first | exact hR | (simp only [if_pos (show (0 : Int32) = 0 ∨ (0 : Int32) = 1 by decide), if_pos (show (1 : Int32) = 0 ∨ (1 : Int32) = 1 by decide)]; exact hR) | (simp; exact hR)
          · rewrite [if_neg h7]; simp only [if_neg h7] at hR
            exact hR
      · rewrite [if_neg h5]; simp only [if_neg h5] at hR
        first | exact hR | (simp only [if_pos (show (0 : Int32) = 0 ∨ (0 : Int32) = 1 by decide), if_pos (show (1 : Int32) = 0 ∨ (1 : Int32) = 1 by decide)]; exact hR) | (simp; exact hR)

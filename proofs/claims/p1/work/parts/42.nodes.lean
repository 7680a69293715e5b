/-! Closed forms of loop-free methods, pure forms of loops: nodes, memory, routes, the tape. Written by gen/run1.py. -/
def q_X2_hasVolume (U : NodV) (x1 : Int32) : Int32 := (if x1 < 0 then 0 else (if (3 : Int32) ≤ x1 then 0 else (if (U 0 6) ≤ x1 then 0 else 1)))
theorem s_X2_hasVolume {J : MJ} {n : Nat} (hN : NodL J n) (X : MI) (U : NodV) (x1 : Int32) : M_X2_hasVolume [mR (some n), mI x1] (pt X n U, J) = some (some (mI (q_X2_hasVolume U x1)), (pt X n U, J)) := by
  generalize hR : some (some (mI (q_X2_hasVolume U x1)), (pt X n U, J)) = R
  rw [E_X2_hasVolume]
  unfold q_X2_hasVolume at hR
  by_cases h1 : x1 < 0
  · rewrite [if_pos h1]; simp only [if_pos h1] at hR
    first | exact hR | (simp only [if_pos (show (0 : Int32) = 0 ∨ (0 : Int32) = 1 by decide), if_pos (show (1 : Int32) = 0 ∨ (1 : Int32) = 1 by decide)]; exact hR) | (simp; exact hR)
  · rewrite [if_neg h1]; simp only [if_neg h1] at hR
    by_cases h2 : (3 : Int32) ≤ x1
    · rewrite [if_pos h2]; simp only [if_pos h2] at hR
      first | exact hR | (simp only [if_pos (show (0 : Int32) = 0 ∨ (0 : Int32) = 1 by decide), if_pos (show (1 : Int32) = 0 ∨ (1 : Int32) = 1 by decide)]; exact hR) | (simp; exact hR)
    · rewrite [if_neg h2]; simp only [if_neg h2] at hR
      try rewrite [fI_ok 6 hN.k]
      try rewrite [Option.bind_some]
      try rewrite [p6_0]
      by_cases h3 : (U 0 6) ≤ x1
      · rewrite [if_pos h3]; simp only [if_pos h3] at hR
        first | exact hR | (simp only [if_pos (show (0 : Int32) = 0 ∨ (0 : Int32) = 1 by decide), if_pos (show (1 : Int32) = 0 ∨ (1 : Int32) = 1 by decide)]; exact hR) | (simp; exact hR)
      · rewrite [if_neg h3]; simp only [if_neg h3] at hR
        first | exact hR | (simp only [if_pos (show (0 : Int32) = 0 ∨ (0 : Int32) = 1 by decide), if_pos (show (1 : Int32) = 0 ∨ (1 : Int32) = 1 by decide)]; exact hR) | (simp; exact hR)
theorem b_X2_hasVolume_0 {U : NodV} {x1 : Int32} (h : ¬ q_X2_hasVolume U x1 = 0) : inb x1 3 := by
  unfold q_X2_hasVolume at h
  by_cases k1 : x1 < 0
  · simp only [if_pos k1] at h
    first | exact absurd rfl h | exact absurd trivial h
  · simp only [if_neg k1] at h
    by_cases k2 : (3 : Int32) ≤ x1
    · simp only [if_pos k2] at h
      first | exact absurd rfl h | exact absurd trivial h
    · simp only [if_neg k2] at h
      by_cases k3 : (U 0 6) ≤ x1
      · simp only [if_pos k3] at h
        first | exact absurd rfl h | exact absurd trivial h
      · simp only [if_neg k3] at h
        exact (inb_of rfl k1 k2)
def q_X2_rootOf (U : NodV) (x1 : Int32) : Int32 := (if (q_X2_hasVolume U x1) = 0 then (-1) else U 5 (ix x1))
theorem s_X2_rootOf {J : MJ} {n : Nat} (hN : NodL J n) (X : MI) (U : NodV) (x1 : Int32) : M_X2_rootOf [mR (some n), mI x1] (pt X n U, J) = some (some (mI (q_X2_rootOf U x1)), (pt X n U, J)) := by
  generalize hR : some (some (mI (q_X2_rootOf U x1)), (pt X n U, J)) = R
  rw [E_X2_rootOf]
  unfold q_X2_rootOf at hR
  try simp only [Option.bind_some]
  rewrite [if_pos (show kd (pt X n U, J) n = 2 from hN.k)]
  rewrite [s_X2_hasVolume hN]
  simp only [Option.bind_some, asI_I]
  by_cases h1 : (q_X2_hasVolume U x1) = 0
  · rewrite [if_pos h1]; simp only [if_pos h1] at hR
    exact hR
  · rewrite [if_neg h1]; simp only [if_neg h1] at hR
    try rewrite [fR_ok 4 hN.k]
    try rewrite [Option.bind_some]
    try rewrite [hN.r5]
    try simp only [Option.bind_some]
    try rewrite [ld_ok _ hN.s5 (b_X2_hasVolume_0 h1)]
    try rewrite [Option.bind_some]
    try rewrite [p6_5]
    exact hR
def q_X2_exists (U : NodV) (x1 : Int32) : Int32 := (if x1 < 0 then 0 else (if (60 : Int32) ≤ x1 then 0 else (if (U 0 5) ≤ x1 then 0 else (if (U 4 (ix x1)) = 0 then 0 else 1))))
theorem s_X2_exists {J : MJ} {n : Nat} (hN : NodL J n) (X : MI) (U : NodV) (x1 : Int32) : M_X2_exists [mR (some n), mI x1] (pt X n U, J) = some (some (mI (q_X2_exists U x1)), (pt X n U, J)) := by
  generalize hR : some (some (mI (q_X2_exists U x1)), (pt X n U, J)) = R
  rw [E_X2_exists]
  unfold q_X2_exists at hR
  by_cases h1 : x1 < 0
  · rewrite [if_pos h1]; simp only [if_pos h1] at hR
    first | exact hR | (simp only [if_pos (show (0 : Int32) = 0 ∨ (0 : Int32) = 1 by decide), if_pos (show (1 : Int32) = 0 ∨ (1 : Int32) = 1 by decide)]; exact hR) | (simp; exact hR)
  · rewrite [if_neg h1]; simp only [if_neg h1] at hR
    by_cases h2 : (60 : Int32) ≤ x1
    · rewrite [if_pos h2]; simp only [if_pos h2] at hR
      first | exact hR | (simp only [if_pos (show (0 : Int32) = 0 ∨ (0 : Int32) = 1 by decide), if_pos (show (1 : Int32) = 0 ∨ (1 : Int32) = 1 by decide)]; exact hR) | (simp; exact hR)
    · rewrite [if_neg h2]; simp only [if_neg h2] at hR
      try rewrite [fI_ok 5 hN.k]
      try rewrite [Option.bind_some]
      try rewrite [p6_0]
      by_cases h3 : (U 0 5) ≤ x1
      · rewrite [if_pos h3]; simp only [if_pos h3] at hR
        first | exact hR | (simp only [if_pos (show (0 : Int32) = 0 ∨ (0 : Int32) = 1 by decide), if_pos (show (1 : Int32) = 0 ∨ (1 : Int32) = 1 by decide)]; exact hR) | (simp; exact hR)
      · rewrite [if_neg h3]; simp only [if_neg h3] at hR
        try rewrite [fR_ok 3 hN.k]
        try rewrite [Option.bind_some]
        try rewrite [hN.r4]
        try simp only [Option.bind_some]
        try rewrite [ld_ok _ hN.s4 (inb_of rfl h1 h2)]
        try rewrite [Option.bind_some]
        try rewrite [p6_4]
        by_cases h4 : (U 4 (ix x1)) = 0
        · rewrite [if_pos h4]; simp only [if_pos h4] at hR
          first | exact hR | (simp only [if_pos (show (0 : Int32) = 0 ∨ (0 : Int32) = 1 by decide), if_pos (show (1 : Int32) = 0 ∨ (1 : Int32) = 1 by decide)]; exact hR) | (simp; exact hR)
        · rewrite [if_neg h4]; simp only [if_neg h4] at hR
          first | exact hR | (simp only [if_pos (show (0 : Int32) = 0 ∨ (0 : Int32) = 1 by decide), if_pos (show (1 : Int32) = 0 ∨ (1 : Int32) = 1 by decide)]; exact hR) | (simp; exact hR)
theorem b_X2_exists_0 {U : NodV} {x1 : Int32} (h : ¬ q_X2_exists U x1 = 0) : inb x1 60 := by
  unfold q_X2_exists at h
  by_cases k1 : x1 < 0
  · simp only [if_pos k1] at h
    first | exact absurd rfl h | exact absurd trivial h
  · simp only [if_neg k1] at h
    by_cases k2 : (60 : Int32) ≤ x1
    · simp only [if_pos k2] at h
      first | exact absurd rfl h | exact absurd trivial h
    · simp only [if_neg k2] at h
      by_cases k3 : (U 0 5) ≤ x1
      · simp only [if_pos k3] at h
        first | exact absurd rfl h | exact absurd trivial h
      · simp only [if_neg k3] at h
        by_cases k4 : (U 4 (ix x1)) = 0
        · simp only [if_pos k4] at h
          first | exact absurd rfl h | exact absurd trivial h
        · simp only [if_neg k4] at h
          exact (inb_of rfl k1 k2)
def q_X2_isFolder (U : NodV) (x1 : Int32) : Int32 := (if (q_X2_exists U x1) = 0 then 0 else (if (U 4 (ix x1)) = 2 then 1 else 0))
theorem s_X2_isFolder {J : MJ} {n : Nat} (hN : NodL J n) (X : MI) (U : NodV) (x1 : Int32) : M_X2_isFolder [mR (some n), mI x1] (pt X n U, J) = some (some (mI (q_X2_isFolder U x1)), (pt X n U, J)) := by
  generalize hR : some (some (mI (q_X2_isFolder U x1)), (pt X n U, J)) = R
  rw [E_X2_isFolder]
  unfold q_X2_isFolder at hR
  try simp only [Option.bind_some]
  rewrite [if_pos (show kd (pt X n U, J) n = 2 from hN.k)]
  rewrite [s_X2_exists hN]
  simp only [Option.bind_some, asI_I]
  by_cases h1 : (q_X2_exists U x1) = 0
  · rewrite [if_pos h1]; simp only [if_pos h1] at hR
    first | exact hR | (simp only [if_pos (show (0 : Int32) = 0 ∨ (0 : Int32) = 1 by decide), if_pos (show (1 : Int32) = 0 ∨ (1 : Int32) = 1 by decide)]; exact hR) | (simp; exact hR)
  · rewrite [if_neg h1]; simp only [if_neg h1] at hR
    try rewrite [fR_ok 3 hN.k]
    try rewrite [Option.bind_some]
    try rewrite [hN.r4]
    try simp only [Option.bind_some]
    try rewrite [ld_ok _ hN.s4 (b_X2_exists_0 h1)]
    try rewrite [Option.bind_some]
    try rewrite [p6_4]
    by_cases h2 : (U 4 (ix x1)) = 2
    · rewrite [if_pos h2]; simp only [if_pos h2] at hR
      first | exact hR | (simp only [if_pos (show (0 : Int32) = 0 ∨ (0 : Int32) = 1 by decide), if_pos (show (1 : Int32) = 0 ∨ (1 : Int32) = 1 by decide)]; exact hR) | (simp; exact hR)
    · rewrite [if_neg h2]; simp only [if_neg h2] at hR
      first | exact hR | (simp only [if_pos (show (0 : Int32) = 0 ∨ (0 : Int32) = 1 by decide), if_pos (show (1 : Int32) = 0 ∨ (1 : Int32) = 1 by decide)]; exact hR) | (simp; exact hR)
theorem b_X2_isFolder_0 {U : NodV} {x1 : Int32} (h : ¬ q_X2_isFolder U x1 = 0) : inb x1 60 := by
  unfold q_X2_isFolder at h
  by_cases k1 : (q_X2_exists U x1) = 0
  · simp only [if_pos k1] at h
    first | exact absurd rfl h | exact absurd trivial h
  · simp only [if_neg k1] at h
    by_cases k2 : (U 4 (ix x1)) = 2
    · simp only [if_pos k2] at h
      exact (b_X2_exists_0 k1)
    · simp only [if_neg k2] at h
      first | exact absurd rfl h | exact absurd trivial h
theorem P_X2_find {J : MJ} {n : Nat} (hN : NodL J n) (X : MI) (U : NodV) (x1 : Int32) (x2 : Int32) : M_X2_find [mR (some n), mI x1, mI x2] (pt X n U, J) = Ev T_X2_find 2 [some (mR (some n)), some (mI x1), some (mI x2), some (mI 0)] [] (pt X n U, J) := by
  generalize hR : Ev T_X2_find 2 [some (mR (some n)), some (mI x1), some (mI x2), some (mI 0)] [] (pt X n U, J) = R
  rw [E_X2_find]
  exact hR
theorem P_X2_find_2 {J : MJ} {n : Nat} (hN : NodL J n) (X : MI) (U : NodV) (x1 : Int32) (x2 : Int32) (x3 : Int32) (h_x3 : ¬ x3 < 0) : Ev T_X2_find 2 [some (mR (some n)), some (mI x1), some (mI x2), some (mI x3)] [] (pt X n U, J) = (if (U 0 5) ≤ x3 then some (some (mI ((-1))), (pt X n U, J)) else (if (60 : Int32) ≤ x3 then some (some (mI ((-1))), (pt X n U, J)) else (if (U 4 (ix x3)) = 0 then Ev T_X2_find 2 [some (mR (some n)), some (mI x1), some (mI x2), some (mI (x3 + 1))] [] (pt X n U, J) else (if (U 2 (ix x3)) = x1 then (if (U 3 (ix x3)) = x2 then some (some (mI x3), (pt X n U, J)) else Ev T_X2_find 2 [some (mR (some n)), some (mI x1), some (mI x2), some (mI (x3 + 1))] [] (pt X n U, J)) else Ev T_X2_find 2 [some (mR (some n)), some (mI x1), some (mI x2), some (mI (x3 + 1))] [] (pt X n U, J))))) := by
  generalize hR : (if (U 0 5) ≤ x3 then some (some (mI ((-1))), (pt X n U, J)) else (if (60 : Int32) ≤ x3 then some (some (mI ((-1))), (pt X n U, J)) else (if (U 4 (ix x3)) = 0 then Ev T_X2_find 2 [some (mR (some n)), some (mI x1), some (mI x2), some (mI (x3 + 1))] [] (pt X n U, J) else (if (U 2 (ix x3)) = x1 then (if (U 3 (ix x3)) = x2 then some (some (mI x3), (pt X n U, J)) else Ev T_X2_find 2 [some (mR (some n)), some (mI x1), some (mI x2), some (mI (x3 + 1))] [] (pt X n U, J)) else Ev T_X2_find 2 [some (mR (some n)), some (mI x1), some (mI x2), some (mI (x3 + 1))] [] (pt X n U, J))))) = R
  rw [E_X2_find_2]
  try rewrite [fI_ok 5 hN.k]
  try rewrite [Option.bind_some]
  try rewrite [p6_0]
  by_cases h1 : (U 0 5) ≤ x3
  · rewrite [if_pos h1]; simp only [if_pos h1] at hR
    exact hR
  · rewrite [if_neg h1]; simp only [if_neg h1] at hR
    by_cases h2 : (60 : Int32) ≤ x3
    · rewrite [if_pos h2]; simp only [if_pos h2] at hR
      exact hR
    · rewrite [if_neg h2]; simp only [if_neg h2] at hR
      try rewrite [fR_ok 3 hN.k]
      try rewrite [Option.bind_some]
      try rewrite [hN.r4]
      try simp only [Option.bind_some]
      try rewrite [ld_ok _ hN.s4 (inb_of rfl h_x3 h2)]
      try rewrite [Option.bind_some]
      try rewrite [p6_4]
      by_cases h3 : (U 4 (ix x3)) = 0
      · rewrite [if_pos h3]; simp only [if_pos h3] at hR
        exact hR
      · rewrite [if_neg h3]; simp only [if_neg h3] at hR
        try rewrite [fR_ok 1 hN.k]
        try rewrite [Option.bind_some]
        try rewrite [hN.r2]
        try simp only [Option.bind_some]
        try rewrite [ld_ok _ hN.s2 (inb_of rfl h_x3 h2)]
        try rewrite [Option.bind_some]
        try rewrite [p6_2]
        by_cases h4 : (U 2 (ix x3)) = x1
        · rewrite [if_pos h4]; simp only [if_pos h4] at hR
          try rewrite [fR_ok 2 hN.k]
          try rewrite [Option.bind_some]
          try rewrite [hN.r3]
          try simp only [Option.bind_some]
          try rewrite [ld_ok _ hN.s3 (inb_of rfl h_x3 h2)]
          try rewrite [Option.bind_some]
          try rewrite [p6_3]
          by_cases h5 : (U 3 (ix x3)) = x2
          · rewrite [if_pos h5]; simp only [if_pos h5] at hR
            exact hR
          · rewrite [if_neg h5]; simp only [if_neg h5] at hR
            exact hR
        · rewrite [if_neg h4]; simp only [if_neg h4] at hR
          exact hR
def q_X2_put (U : NodV) (x1 : Int32) (x2 : Int32) (x3 : Int32) (x4 : Int32) : Int32 := (if (U 0 5) < 0 then (-1) else (if (U 0 5) < 60 then U 0 5 else (-1)))
def gU_X2_put (U : NodV) (x1 : Int32) (x2 : Int32) (x3 : Int32) (x4 : Int32) : NodV := (if (U 0 5) < 0 then U else (if (U 0 5) < 60 then uv (uv (uv (uv (uv U 0 5 ((U 0 5) + 1)) 1 (ix (U 0 5)) x1) 2 (ix (U 0 5)) x2) 3 (ix (U 0 5)) x3) 4 (ix (U 0 5)) x4 else U))
theorem s_X2_put {J : MJ} {n : Nat} (hN : NodL J n) (X : MI) (U : NodV) (x1 : Int32) (x2 : Int32) (x3 : Int32) (x4 : Int32) : M_X2_put [mR (some n), mI x1, mI x2, mI x3, mI x4] (pt X n U, J) = some (some (mI (q_X2_put U x1 x2 x3 x4)), (pt X n (gU_X2_put U x1 x2 x3 x4), J)) := by
  generalize hR : some (some (mI (q_X2_put U x1 x2 x3 x4)), (pt X n (gU_X2_put U x1 x2 x3 x4), J)) = R
  rw [E_X2_put]
  unfold q_X2_put gU_X2_put at hR
  try rewrite [fI_ok 5 hN.k]
  try rewrite [Option.bind_some]
  try rewrite [p6_0]
  by_cases h1 : (U 0 5) < 0
  · rewrite [if_pos h1]; simp only [if_pos h1] at hR
    exact hR
  · rewrite [if_neg h1]; simp only [if_neg h1] at hR
    by_cases h2 : (U 0 5) < 60
    · rewrite [if_pos h2]; simp only [if_pos h2] at hR
      try rewrite [fI_ok 5 hN.k]
      try rewrite [Option.bind_some]
      try rewrite [p6_0]
      try rewrite [wI_ok 5 _ hN.k]
      try rewrite [Option.bind_some]
      try rewrite [u6_0]
      try rewrite [fR_ok 0 hN.k]
      try rewrite [Option.bind_some]
      try rewrite [hN.r1]
      try simp only [Option.bind_some]
      try rewrite [st_ok _ _ hN.s1 (inb_of rfl h1 (Int32.not_le.mpr h2))]
      try rewrite [Option.bind_some]
      try rewrite [u6_1]
      try rewrite [fR_ok 1 hN.k]
      try rewrite [Option.bind_some]
      try rewrite [hN.r2]
      try simp only [Option.bind_some]
      try rewrite [st_ok _ _ hN.s2 (inb_of rfl h1 (Int32.not_le.mpr h2))]
      try rewrite [Option.bind_some]
      try rewrite [u6_2]
      try rewrite [fR_ok 2 hN.k]
      try rewrite [Option.bind_some]
      try rewrite [hN.r3]
      try simp only [Option.bind_some]
      try rewrite [st_ok _ _ hN.s3 (inb_of rfl h1 (Int32.not_le.mpr h2))]
      try rewrite [Option.bind_some]
      try rewrite [u6_3]
      try rewrite [fR_ok 3 hN.k]
      try rewrite [Option.bind_some]
      try rewrite [hN.r4]
      try simp only [Option.bind_some]
      try rewrite [st_ok _ _ hN.s4 (inb_of rfl h1 (Int32.not_le.mpr h2))]
      try rewrite [Option.bind_some]
      try rewrite [u6_4]
      exact hR
    · rewrite [if_neg h2]; simp only [if_neg h2] at hR
      exact hR
def q_X2_addIn (U : NodV) (x1 : Int32) (x2 : Int32) (x3 : Int32) : Int32 := (if (q_X2_isFolder U x1) = 0 then (-1) else q_X2_put U (U 1 (ix x1)) x1 x2 x3)
def gU_X2_addIn (U : NodV) (x1 : Int32) (x2 : Int32) (x3 : Int32) : NodV := (if (q_X2_isFolder U x1) = 0 then U else gU_X2_put U (U 1 (ix x1)) x1 x2 x3)
theorem s_X2_addIn {J : MJ} {n : Nat} (hN : NodL J n) (X : MI) (U : NodV) (x1 : Int32) (x2 : Int32) (x3 : Int32) : M_X2_addIn [mR (some n), mI x1, mI x2, mI x3] (pt X n U, J) = some (some (mI (q_X2_addIn U x1 x2 x3)), (pt X n (gU_X2_addIn U x1 x2 x3), J)) := by
  generalize hR : some (some (mI (q_X2_addIn U x1 x2 x3)), (pt X n (gU_X2_addIn U x1 x2 x3), J)) = R
  rw [E_X2_addIn]
  unfold q_X2_addIn gU_X2_addIn at hR
  try simp only [Option.bind_some]
  rewrite [if_pos (show kd (pt X n U, J) n = 2 from hN.k)]
  rewrite [s_X2_isFolder hN]
  simp only [Option.bind_some, asI_I]
  by_cases h1 : (q_X2_isFolder U x1) = 0
  · rewrite [if_pos h1]; simp only [if_pos h1] at hR
    exact hR
  · rewrite [if_neg h1]; simp only [if_neg h1] at hR
    try rewrite [fR_ok 0 hN.k]
    try rewrite [Option.bind_some]
    try rewrite [hN.r1]
    try simp only [Option.bind_some]
    try rewrite [ld_ok _ hN.s1 (b_X2_isFolder_0 h1)]
    try rewrite [Option.bind_some]
    try rewrite [p6_1]
    try simp only [Option.bind_some]
    rewrite [if_pos (show kd (pt X n U, J) n = 2 from hN.k)]
    rewrite [s_X2_put hN]
    simp only [Option.bind_some, asI_I]
    exact hR
def q_X2_volumeOf (U : NodV) (x1 : Int32) : Int32 := (if x1 < 0 then (-1) else (if (60 : Int32) ≤ x1 then (-1) else (if (U 0 5) ≤ x1 then (-1) else U 1 (ix x1))))
theorem s_X2_volumeOf {J : MJ} {n : Nat} (hN : NodL J n) (X : MI) (U : NodV) (x1 : Int32) : M_X2_volumeOf [mR (some n), mI x1] (pt X n U, J) = some (some (mI (q_X2_volumeOf U x1)), (pt X n U, J)) := by
  generalize hR : some (some (mI (q_X2_volumeOf U x1)), (pt X n U, J)) = R
  rw [E_X2_volumeOf]
  unfold q_X2_volumeOf at hR
  by_cases h1 : x1 < 0
  · rewrite [if_pos h1]; simp only [if_pos h1] at hR
    exact hR
  · rewrite [if_neg h1]; simp only [if_neg h1] at hR
    by_cases h2 : (60 : Int32) ≤ x1
    · rewrite [if_pos h2]; simp only [if_pos h2] at hR
      exact hR
    · rewrite [if_neg h2]; simp only [if_neg h2] at hR
      try rewrite [fI_ok 5 hN.k]
      try rewrite [Option.bind_some]
      try rewrite [p6_0]
      by_cases h3 : (U 0 5) ≤ x1
      · rewrite [if_pos h3]; simp only [if_pos h3] at hR
        exact hR
      · rewrite [if_neg h3]; simp only [if_neg h3] at hR
        try rewrite [fR_ok 0 hN.k]
        try rewrite [Option.bind_some]
        try rewrite [hN.r1]
        try simp only [Option.bind_some]
        try rewrite [ld_ok _ hN.s1 (inb_of rfl h1 h2)]
        try rewrite [Option.bind_some]
        try rewrite [p6_1]
        exact hR
def gU_X2_clear (U : NodV) : NodV := uv (uv U 0 5 0) 0 6 0
theorem s_X2_clear {J : MJ} {n : Nat} (hN : NodL J n) (X : MI) (U : NodV) : M_X2_clear [mR (some n)] (pt X n U, J) = some (none, (pt X n (gU_X2_clear U), J)) := by
  generalize hR : some (none, (pt X n (gU_X2_clear U), J)) = R
  rw [E_X2_clear]
  unfold gU_X2_clear at hR
  try rewrite [wI_ok 5 _ hN.k]
  try rewrite [Option.bind_some]
  try rewrite [u6_0]
  try rewrite [wI_ok 6 _ hN.k]
  try rewrite [Option.bind_some]
  try rewrite [u6_0]
  exact hR
def q_X2_isFull (U : NodV) : Int32 := (if (U 0 5) < 60 then 0 else 1)
theorem s_X2_isFull {J : MJ} {n : Nat} (hN : NodL J n) (X : MI) (U : NodV) : M_X2_isFull [mR (some n)] (pt X n U, J) = some (some (mI (q_X2_isFull U)), (pt X n U, J)) := by
  generalize hR : some (some (mI (q_X2_isFull U)), (pt X n U, J)) = R
  rw [E_X2_isFull]
  unfold q_X2_isFull at hR
  try rewrite [fI_ok 5 hN.k]
  try rewrite [Option.bind_some]
  try rewrite [p6_0]
  by_cases h1 : (U 0 5) < 60
  · rewrite [if_pos h1]; simp only [if_pos h1] at hR
    first | exact hR | (simp only [if_pos (show (0 : Int32) = 0 ∨ (0 : Int32) = 1 by decide), if_pos (show (1 : Int32) = 0 ∨ (1 : Int32) = 1 by decide)]; exact hR) | (simp; exact hR)
  · rewrite [if_neg h1]; simp only [if_neg h1] at hR
    first | exact hR | (simp only [if_pos (show (0 : Int32) = 0 ∨ (0 : Int32) = 1 by decide), if_pos (show (1 : Int32) = 0 ∨ (1 : Int32) = 1 by decide)]; exact hR) | (simp; exact hR)
def q_X2_parentOf (U : NodV) (x1 : Int32) : Int32 := (if (q_X2_exists U x1) = 0 then (-1) else U 2 (ix x1))
theorem s_X2_parentOf {J : MJ} {n : Nat} (hN : NodL J n) (X : MI) (U : NodV) (x1 : Int32) : M_X2_parentOf [mR (some n), mI x1] (pt X n U, J) = some (some (mI (q_X2_parentOf U x1)), (pt X n U, J)) := by
  generalize hR : some (some (mI (q_X2_parentOf U x1)), (pt X n U, J)) = R
  rw [E_X2_parentOf]
  unfold q_X2_parentOf at hR
  try simp only [Option.bind_some]
  rewrite [if_pos (show kd (pt X n U, J) n = 2 from hN.k)]
  rewrite [s_X2_exists hN]
  simp only [Option.bind_some, asI_I]
  by_cases h1 : (q_X2_exists U x1) = 0
  · rewrite [if_pos h1]; simp only [if_pos h1] at hR
    exact hR
  · rewrite [if_neg h1]; simp only [if_neg h1] at hR
    try rewrite [fR_ok 1 hN.k]
    try rewrite [Option.bind_some]
    try rewrite [hN.r2]
    try simp only [Option.bind_some]
    try rewrite [ld_ok _ hN.s2 (b_X2_exists_0 h1)]
    try rewrite [Option.bind_some]
    try rewrite [p6_2]
    exact hR
def q_X2_nameOf (U : NodV) (x1 : Int32) : Int32 := (if (q_X2_exists U x1) = 0 then 0 else U 3 (ix x1))
theorem s_X2_nameOf {J : MJ} {n : Nat} (hN : NodL J n) (X : MI) (U : NodV) (x1 : Int32) : M_X2_nameOf [mR (some n), mI x1] (pt X n U, J) = some (some (mI (q_X2_nameOf U x1)), (pt X n U, J)) := by
  generalize hR : some (some (mI (q_X2_nameOf U x1)), (pt X n U, J)) = R
  rw [E_X2_nameOf]
  unfold q_X2_nameOf at hR
  try simp only [Option.bind_some]
  rewrite [if_pos (show kd (pt X n U, J) n = 2 from hN.k)]
  rewrite [s_X2_exists hN]
  simp only [Option.bind_some, asI_I]
  by_cases h1 : (q_X2_exists U x1) = 0
  · rewrite [if_pos h1]; simp only [if_pos h1] at hR
    exact hR
  · rewrite [if_neg h1]; simp only [if_neg h1] at hR
    try rewrite [fR_ok 2 hN.k]
    try rewrite [Option.bind_some]
    try rewrite [hN.r3]
    try simp only [Option.bind_some]
    try rewrite [ld_ok _ hN.s3 (b_X2_exists_0 h1)]
    try rewrite [Option.bind_some]
    try rewrite [p6_3]
    exact hR
theorem b_X2_nameOf_0 {U : NodV} {x1 : Int32} (h : ¬ q_X2_nameOf U x1 = 0) : inb x1 60 := by
  unfold q_X2_nameOf at h
  by_cases k1 : (q_X2_exists U x1) = 0
  · simp only [if_pos k1] at h
    first | exact absurd rfl h | exact absurd trivial h
  · simp only [if_neg k1] at h
    exact (b_X2_exists_0 k1)
def gU_X2_becomeFolder (U : NodV) (x1 : Int32) : NodV := (if (q_X2_exists U x1) = 0 then U else uv U 4 (ix x1) 2)
theorem s_X2_becomeFolder {J : MJ} {n : Nat} (hN : NodL J n) (X : MI) (U : NodV) (x1 : Int32) : M_X2_becomeFolder [mR (some n), mI x1] (pt X n U, J) = some (none, (pt X n (gU_X2_becomeFolder U x1), J)) := by
  generalize hR : some (none, (pt X n (gU_X2_becomeFolder U x1), J)) = R
  rw [E_X2_becomeFolder]
  unfold gU_X2_becomeFolder at hR
  try simp only [Option.bind_some]
  rewrite [if_pos (show kd (pt X n U, J) n = 2 from hN.k)]
  rewrite [s_X2_exists hN]
  simp only [Option.bind_some, asI_I]
  by_cases h1 : (q_X2_exists U x1) = 0
  · rewrite [if_pos h1]; simp only [if_pos h1] at hR
    exact hR
  · rewrite [if_neg h1]; simp only [if_neg h1] at hR
    try rewrite [fR_ok 3 hN.k]
    try rewrite [Option.bind_some]
    try rewrite [hN.r4]
    try simp only [Option.bind_some]
    try rewrite [st_ok _ _ hN.s4 (b_X2_exists_0 h1)]
    try rewrite [Option.bind_some]
    try rewrite [u6_4]
    exact hR
def gU_X2_take (U : NodV) (x1 : Int32) : NodV := (if (q_X2_exists U x1) = 0 then U else uv U 4 (ix x1) 0)
theorem s_X2_take {J : MJ} {n : Nat} (hN : NodL J n) (X : MI) (U : NodV) (x1 : Int32) : M_X2_take [mR (some n), mI x1] (pt X n U, J) = some (none, (pt X n (gU_X2_take U x1), J)) := by
  generalize hR : some (none, (pt X n (gU_X2_take U x1), J)) = R
  rw [E_X2_take]
  unfold gU_X2_take at hR
  try simp only [Option.bind_some]
  rewrite [if_pos (show kd (pt X n U, J) n = 2 from hN.k)]
  rewrite [s_X2_exists hN]
  simp only [Option.bind_some, asI_I]
  by_cases h1 : (q_X2_exists U x1) = 0
  · rewrite [if_pos h1]; simp only [if_pos h1] at hR
    exact hR
  · rewrite [if_neg h1]; simp only [if_neg h1] at hR
    try rewrite [fR_ok 3 hN.k]
    try rewrite [Option.bind_some]
    try rewrite [hN.r4]
    try simp only [Option.bind_some]
    try rewrite [st_ok _ _ hN.s4 (b_X2_exists_0 h1)]
    try rewrite [Option.bind_some]
    try rewrite [u6_4]
    exact hR
def gU_X2_move (U : NodV) (x1 : Int32) (x2 : Int32) (x3 : Int32) : NodV := (if (q_X2_exists U x1) = 0 then U else (if (q_X2_isFolder U x2) = 0 then U else uv (uv U 2 (ix x1) x2) 3 (ix x1) x3))
theorem s_X2_move {J : MJ} {n : Nat} (hN : NodL J n) (X : MI) (U : NodV) (x1 : Int32) (x2 : Int32) (x3 : Int32) : M_X2_move [mR (some n), mI x1, mI x2, mI x3] (pt X n U, J) = some (none, (pt X n (gU_X2_move U x1 x2 x3), J)) := by
  generalize hR : some (none, (pt X n (gU_X2_move U x1 x2 x3), J)) = R
  rw [E_X2_move]
  unfold gU_X2_move at hR
  try simp only [Option.bind_some]
  rewrite [if_pos (show kd (pt X n U, J) n = 2 from hN.k)]
  rewrite [s_X2_exists hN]
  simp only [Option.bind_some, asI_I]
  by_cases h1 : (q_X2_exists U x1) = 0
  · rewrite [if_pos h1]; simp only [if_pos h1] at hR
    exact hR
  · rewrite [if_neg h1]; simp only [if_neg h1] at hR
    try simp only [Option.bind_some]
    rewrite [if_pos (show kd (pt X n U, J) n = 2 from hN.k)]
    rewrite [s_X2_isFolder hN]
    simp only [Option.bind_some, asI_I]
    by_cases h2 : (q_X2_isFolder U x2) = 0
    · rewrite [if_pos h2]; simp only [if_pos h2] at hR
      exact hR
    · rewrite [if_neg h2]; simp only [if_neg h2] at hR
      try rewrite [fR_ok 1 hN.k]
      try rewrite [Option.bind_some]
      try rewrite [hN.r2]
      try simp only [Option.bind_some]
      try rewrite [st_ok _ _ hN.s2 (b_X2_exists_0 h1)]
      try rewrite [Option.bind_some]
      try rewrite [u6_2]
      try rewrite [fR_ok 2 hN.k]
      try rewrite [Option.bind_some]
      try rewrite [hN.r3]
      try simp only [Option.bind_some]
      try rewrite [st_ok _ _ hN.s3 (b_X2_exists_0 h1)]
      try rewrite [Option.bind_some]
      try rewrite [u6_3]
      exact hR
theorem P_X2_howManyIn {J : MJ} {n : Nat} (hN : NodL J n) (X : MI) (U : NodV) (x1 : Int32) : M_X2_howManyIn [mR (some n), mI x1] (pt X n U, J) = Ev T_X2_howManyIn 4 [some (mR (some n)), some (mI x1), some (mI 0), some (mI 0)] [] (pt X n U, J) := by
  generalize hR : Ev T_X2_howManyIn 4 [some (mR (some n)), some (mI x1), some (mI 0), some (mI 0)] [] (pt X n U, J) = R
  rw [E_X2_howManyIn]
  exact hR
theorem P_X2_howManyIn_4 {J : MJ} {n : Nat} (hN : NodL J n) (X : MI) (U : NodV) (x1 : Int32) (x2 : Int32) (x3 : Int32) (h_x3 : ¬ x3 < 0) : Ev T_X2_howManyIn 4 [some (mR (some n)), some (mI x1), some (mI x2), some (mI x3)] [] (pt X n U, J) = (if (U 0 5) ≤ x3 then some (some (mI x2), (pt X n U, J)) else (if (60 : Int32) ≤ x3 then some (some (mI x2), (pt X n U, J)) else (if (U 4 (ix x3)) = 0 then Ev T_X2_howManyIn 4 [some (mR (some n)), some (mI x1), some (mI x2), some (mI (x3 + 1))] [] (pt X n U, J) else (if (U 2 (ix x3)) = x1 then Ev T_X2_howManyIn 4 [some (mR (some n)), some (mI x1), some (mI (x2 + 1)), some (mI (x3 + 1))] [] (pt X n U, J) else Ev T_X2_howManyIn 4 [some (mR (some n)), some (mI x1), some (mI x2), some (mI (x3 + 1))] [] (pt X n U, J))))) := by
  generalize hR : (if (U 0 5) ≤ x3 then some (some (mI x2), (pt X n U, J)) else (if (60 : Int32) ≤ x3 then some (some (mI x2), (pt X n U, J)) else (if (U 4 (ix x3)) = 0 then Ev T_X2_howManyIn 4 [some (mR (some n)), some (mI x1), some (mI x2), some (mI (x3 + 1))] [] (pt X n U, J) else (if (U 2 (ix x3)) = x1 then Ev T_X2_howManyIn 4 [some (mR (some n)), some (mI x1), some (mI (x2 + 1)), some (mI (x3 + 1))] [] (pt X n U, J) else Ev T_X2_howManyIn 4 [some (mR (some n)), some (mI x1), some (mI x2), some (mI (x3 + 1))] [] (pt X n U, J))))) = R
  rw [E_X2_howManyIn_4]
  try rewrite [fI_ok 5 hN.k]
  try rewrite [Option.bind_some]
  try rewrite [p6_0]
  by_cases h1 : (U 0 5) ≤ x3
  · rewrite [if_pos h1]; simp only [if_pos h1] at hR
    exact hR
  · rewrite [if_neg h1]; simp only [if_neg h1] at hR
    by_cases h2 : (60 : Int32) ≤ x3
    · rewrite [if_pos h2]; simp only [if_pos h2] at hR
      exact hR
    · rewrite [if_neg h2]; simp only [if_neg h2] at hR
      try rewrite [fR_ok 3 hN.k]
      try rewrite [Option.bind_some]
      try rewrite [hN.r4]
      try simp only [Option.bind_some]
      try rewrite [ld_ok _ hN.s4 (inb_of rfl h_x3 h2)]
      try rewrite [Option.bind_some]
      try rewrite [p6_4]
      by_cases h3 : (U 4 (ix x3)) = 0
      · rewrite [if_pos h3]; simp only [if_pos h3] at hR
        exact hR
      · rewrite [if_neg h3]; simp only [if_neg h3] at hR
        try rewrite [fR_ok 1 hN.k]
        try rewrite [Option.bind_some]
        try rewrite [hN.r2]
        try simp only [Option.bind_some]
        try rewrite [ld_ok _ hN.s2 (inb_of rfl h_x3 h2)]
        try rewrite [Option.bind_some]
        try rewrite [p6_2]
        by_cases h4 : (U 2 (ix x3)) = x1
        · rewrite [if_pos h4]; simp only [if_pos h4] at hR
          exact hR
        · rewrite [if_neg h4]; simp only [if_neg h4] at hR
          exact hR
theorem P_X2_howMany {J : MJ} {n : Nat} (hN : NodL J n) (X : MI) (U : NodV) : M_X2_howMany [mR (some n)] (pt X n U, J) = Ev T_X2_howMany 4 [some (mR (some n)), some (mI 0), some (mI 0)] [] (pt X n U, J) := by
  generalize hR : Ev T_X2_howMany 4 [some (mR (some n)), some (mI 0), some (mI 0)] [] (pt X n U, J) = R
  rw [E_X2_howMany]
  exact hR
theorem P_X2_howMany_4 {J : MJ} {n : Nat} (hN : NodL J n) (X : MI) (U : NodV) (x1 : Int32) (x2 : Int32) (h_x2 : ¬ x2 < 0) : Ev T_X2_howMany 4 [some (mR (some n)), some (mI x1), some (mI x2)] [] (pt X n U, J) = (if (U 0 5) ≤ x2 then some (some (mI x1), (pt X n U, J)) else (if (60 : Int32) ≤ x2 then some (some (mI x1), (pt X n U, J)) else (if (U 4 (ix x2)) = 0 then Ev T_X2_howMany 4 [some (mR (some n)), some (mI (x1 + 0)), some (mI (x2 + 1))] [] (pt X n U, J) else Ev T_X2_howMany 4 [some (mR (some n)), some (mI (x1 + 1)), some (mI (x2 + 1))] [] (pt X n U, J)))) := by
  generalize hR : (if (U 0 5) ≤ x2 then some (some (mI x1), (pt X n U, J)) else (if (60 : Int32) ≤ x2 then some (some (mI x1), (pt X n U, J)) else (if (U 4 (ix x2)) = 0 then Ev T_X2_howMany 4 [some (mR (some n)), some (mI (x1 + 0)), some (mI (x2 + 1))] [] (pt X n U, J) else Ev T_X2_howMany 4 [some (mR (some n)), some (mI (x1 + 1)), some (mI (x2 + 1))] [] (pt X n U, J)))) = R
  rw [E_X2_howMany_4]
  try rewrite [fI_ok 5 hN.k]
  try rewrite [Option.bind_some]
  try rewrite [p6_0]
  by_cases h1 : (U 0 5) ≤ x2
  · rewrite [if_pos h1]; simp only [if_pos h1] at hR
    exact hR
  · rewrite [if_neg h1]; simp only [if_neg h1] at hR
    by_cases h2 : (60 : Int32) ≤ x2
    · rewrite [if_pos h2]; simp only [if_pos h2] at hR
      exact hR
    · rewrite [if_neg h2]; simp only [if_neg h2] at hR
      try rewrite [fR_ok 3 hN.k]
      try rewrite [Option.bind_some]
      try rewrite [hN.r4]
      try simp only [Option.bind_some]
      try rewrite [ld_ok _ hN.s4 (inb_of rfl h_x2 h2)]
      try rewrite [Option.bind_some]
      try rewrite [p6_4]
      by_cases h3 : (U 4 (ix x2)) = 0
      · rewrite [if_pos h3]; simp only [if_pos h3] at hR
        exact hR
      · rewrite [if_neg h3]; simp only [if_neg h3] at hR
        exact hR
def q_X5_at (Q : RouV) (x1 : Int32) : Int32 := (if x1 < 0 then (-1) else (if (Q 0 1) ≤ x1 then (-1) else (if (400 : Int32) ≤ x1 then (-1) else Q 1 (ix x1))))
theorem s_X5_at {J : MJ} {t : Nat} (hT : TapL J t) (X : MI) (Q : RouV) (x1 : Int32) : M_X5_at [mR (some t), mI x1] (pt X t Q, J) = some (some (mI (q_X5_at Q x1)), (pt X t Q, J)) := by
  generalize hR : some (some (mI (q_X5_at Q x1)), (pt X t Q, J)) = R
  rw [E_X5_at]
  unfold q_X5_at at hR
  by_cases h1 : x1 < 0
  · rewrite [if_pos h1]; simp only [if_pos h1] at hR
    exact hR
  · rewrite [if_neg h1]; simp only [if_neg h1] at hR
    try rewrite [fI_ok 1 hT.k]
    try rewrite [Option.bind_some]
    try rewrite [p2_0]
    by_cases h2 : (Q 0 1) ≤ x1
    · rewrite [if_pos h2]; simp only [if_pos h2] at hR
      exact hR
    · rewrite [if_neg h2]; simp only [if_neg h2] at hR
      by_cases h3 : (400 : Int32) ≤ x1
      · rewrite [if_pos h3]; simp only [if_pos h3] at hR
        exact hR
      · rewrite [if_neg h3]; simp only [if_neg h3] at hR
        try rewrite [fR_ok 0 hT.k]
        try rewrite [Option.bind_some]
        try rewrite [hT.r1]
        try simp only [Option.bind_some]
        try rewrite [ld_ok _ hT.s1 (inb_of rfl h1 h3)]
        try rewrite [Option.bind_some]
        try rewrite [p2_1]
        exact hR
def q_X5_hasSpace (Q : RouV) (x1 : Int32) : Int32 := (if (400 : Int32) < ((Q 0 1) + x1) then 0 else 1)
theorem s_X5_hasSpace {J : MJ} {t : Nat} (hT : TapL J t) (X : MI) (Q : RouV) (x1 : Int32) : M_X5_hasSpace [mR (some t), mI x1] (pt X t Q, J) = some (some (mI (q_X5_hasSpace Q x1)), (pt X t Q, J)) := by
  generalize hR : some (some (mI (q_X5_hasSpace Q x1)), (pt X t Q, J)) = R
  rw [E_X5_hasSpace]
  unfold q_X5_hasSpace at hR
  try rewrite [fI_ok 1 hT.k]
  try rewrite [Option.bind_some]
  try rewrite [p2_0]
  by_cases h1 : (400 : Int32) < ((Q 0 1) + x1)
  · rewrite [if_pos h1]; simp only [if_pos h1] at hR
    first | exact hR | (simp only [if_pos (show (0 : Int32) = 0 ∨ (0 : Int32) = 1 by decide), if_pos (show (1 : Int32) = 0 ∨ (1 : Int32) = 1 by decide)]; exact hR) | (simp; exact hR)
  · rewrite [if_neg h1]; simp only [if_neg h1] at hR
    first | exact hR | (simp only [if_pos (show (0 : Int32) = 0 ∨ (0 : Int32) = 1 by decide), if_pos (show (1 : Int32) = 0 ∨ (1 : Int32) = 1 by decide)]; exact hR) | (simp; exact hR)
theorem P_X5_addWord {J : MJ} {t : Nat} (hT : TapL J t) (X : MI) (Q : RouV) (x1 : Int32) : M_X5_addWord [mR (some t), mI x1] (pt X t Q, J) = Ev T_X5_addWord 3 [some (mR (some t)), some (mI x1), some (mI 24)] [] (pt X t Q, J) := by
  generalize hR : Ev T_X5_addWord 3 [some (mR (some t)), some (mI x1), some (mI 24)] [] (pt X t Q, J) = R
  rw [E_X5_addWord]
  exact hR
theorem P_X5_addWord_3 {J : MJ} {t : Nat} (hT : TapL J t) (X : MI) (Q : RouV) (x1 : Int32) (x2 : Int32) : Ev T_X5_addWord 3 [some (mR (some t)), some (mI x1), some (mI x2)] [] (pt X t Q, J) = (if x2 < 0 then some (none, (pt X t Q, J)) else (if (Q 0 1) < 0 then Ev T_X5_addWord 3 [some (mR (some t)), some (mI x1), some (mI (x2 + (-8)))] [] (pt X t Q, J) else (if (400 : Int32) ≤ (Q 0 1) then Ev T_X5_addWord 3 [some (mR (some t)), some (mI x1), some (mI (x2 + (-8)))] [] (pt X t Q, J) else Ev T_X5_addWord 3 [some (mR (some t)), some (mI x1), some (mI (x2 + (-8)))] [] (pt X t (uv (uv Q 1 (ix (Q 0 1)) (((Int32.toUInt32 x1 >>> (Int32.toUInt32 x2 &&& Int32.toUInt32 31)).toInt32) &&& 255)) 0 1 ((Q 0 1) + 1)), J)))) := by
  generalize hR : (if x2 < 0 then some (none, (pt X t Q, J)) else (if (Q 0 1) < 0 then Ev T_X5_addWord 3 [some (mR (some t)), some (mI x1), some (mI (x2 + (-8)))] [] (pt X t Q, J) else (if (400 : Int32) ≤ (Q 0 1) then Ev T_X5_addWord 3 [some (mR (some t)), some (mI x1), some (mI (x2 + (-8)))] [] (pt X t Q, J) else Ev T_X5_addWord 3 [some (mR (some t)), some (mI x1), some (mI (x2 + (-8)))] [] (pt X t (uv (uv Q 1 (ix (Q 0 1)) (((Int32.toUInt32 x1 >>> (Int32.toUInt32 x2 &&& Int32.toUInt32 31)).toInt32) &&& 255)) 0 1 ((Q 0 1) + 1)), J)))) = R
  rw [E_X5_addWord_3]
  by_cases h1 : x2 < 0
  · rewrite [if_pos h1]; simp only [if_pos h1] at hR
    exact hR
  · rewrite [if_neg h1]; simp only [if_neg h1] at hR
    try rewrite [fI_ok 1 hT.k]
    try rewrite [Option.bind_some]
    try rewrite [p2_0]
    by_cases h2 : (Q 0 1) < 0
    · rewrite [if_pos h2]; simp only [if_pos h2] at hR
      exact hR
    · rewrite [if_neg h2]; simp only [if_neg h2] at hR
      try rewrite [fI_ok 1 hT.k]
      try rewrite [Option.bind_some]
      try rewrite [p2_0]
      by_cases h3 : (400 : Int32) ≤ (Q 0 1)
      · rewrite [if_pos h3]; simp only [if_pos h3] at hR
        exact hR
      · rewrite [if_neg h3]; simp only [if_neg h3] at hR
        try rewrite [fR_ok 0 hT.k]
        try rewrite [Option.bind_some]
        try rewrite [hT.r1]
        try rewrite [fI_ok 1 hT.k]
        try rewrite [Option.bind_some]
        try rewrite [p2_0]
        try simp only [Option.bind_some]
        try rewrite [st_ok _ _ hT.s1 (inb_of rfl h2 h3)]
        try rewrite [Option.bind_some]
        try rewrite [u2_1]
        try rewrite [fI_ok 1 hT.k]
        try rewrite [Option.bind_some]
        try rewrite [p2_0]
        try rewrite [uv_k _ _ _ _ _ (by decide)]
        try rewrite [wI_ok 1 _ hT.k]
        try rewrite [Option.bind_some]
        try rewrite [u2_0]
        exact hR
def q_X5_cut (Q : RouV) (x1 : Int32) : Int32 := (if x1 < 0 then 0 else (if x1 ≤ (Q 0 1) then 1 else 0))
def gQ_X5_cut (Q : RouV) (x1 : Int32) : RouV := (if x1 < 0 then Q else (if x1 ≤ (Q 0 1) then uv Q 0 1 x1 else Q))
theorem s_X5_cut {J : MJ} {t : Nat} (hT : TapL J t) (X : MI) (Q : RouV) (x1 : Int32) : M_X5_cut [mR (some t), mI x1] (pt X t Q, J) = some (some (mI (q_X5_cut Q x1)), (pt X t (gQ_X5_cut Q x1), J)) := by
  generalize hR : some (some (mI (q_X5_cut Q x1)), (pt X t (gQ_X5_cut Q x1), J)) = R
  rw [E_X5_cut]
  unfold q_X5_cut gQ_X5_cut at hR
  by_cases h1 : x1 < 0
  · rewrite [if_pos h1]; simp only [if_pos h1] at hR
    first | exact hR | (simp only [if_pos (show (0 : Int32) = 0 ∨ (0 : Int32) = 1 by decide), if_pos (show (1 : Int32) = 0 ∨ (1 : Int32) = 1 by decide)]; exact hR) | (simp; exact hR)
  · rewrite [if_neg h1]; simp only [if_neg h1] at hR
    try rewrite [fI_ok 1 hT.k]
    try rewrite [Option.bind_some]
    try rewrite [p2_0]
    by_cases h2 : x1 ≤ (Q 0 1)
    · rewrite [if_pos h2]; simp only [if_pos h2] at hR
      try rewrite [wI_ok 1 _ hT.k]
      try rewrite [Option.bind_some]
      try rewrite [u2_0]
      first | exact hR | (simp only [if_pos (show (0 : Int32) = 0 ∨ (0 : Int32) = 1 by decide), if_pos (show (1 : Int32) = 0 ∨ (1 : Int32) = 1 by decide)]; exact hR) | (simp; exact hR)
    · rewrite [if_neg h2]; simp only [if_neg h2] at hR
      first | exact hR | (simp only [if_pos (show (0 : Int32) = 0 ∨ (0 : Int32) = 1 by decide), if_pos (show (1 : Int32) = 0 ∨ (1 : Int32) = 1 by decide)]; exact hR) | (simp; exact hR)
def gQ_X5_clear (Q : RouV) : RouV := uv Q 0 1 0
theorem s_X5_clear {J : MJ} {t : Nat} (hT : TapL J t) (X : MI) (Q : RouV) : M_X5_clear [mR (some t)] (pt X t Q, J) = some (none, (pt X t (gQ_X5_clear Q), J)) := by
  generalize hR : some (none, (pt X t (gQ_X5_clear Q), J)) = R
  rw [E_X5_clear]
  unfold gQ_X5_clear at hR
  try rewrite [wI_ok 1 _ hT.k]
  try rewrite [Option.bind_some]
  try rewrite [u2_0]
  exact hR

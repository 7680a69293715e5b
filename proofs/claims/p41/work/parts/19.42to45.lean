section
/-! Closed forms of loop-free methods, pure forms of loops: nodes, memory, routes, the tape. Written by gen/run1.py. -/
def q_X2_hasVolume (U : NodV) (x1 : Int32) : Int32 := (if x1 < 0 then 0 else (if (3 : Int32) ≤ x1 then 0 else (if (U 0 6) ≤ x1 then 0 else 1)))
theorem s_X2_hasVolume {J : MJ} {n : Nat} (hN : NodL J n) (X : MI) (U : NodV) (x1 : Int32) : M_X2_hasVolume [mR (some n), mI x1] (pt X n U, J) = some (some (mI (q_X2_hasVolume U x1)), (pt X n U, J)) := by
  generalize hR : some (some (mI (q_X2_hasVolume U x1)), (pt X n U, J)) = R
  rw [E_X2_hasVolume]
  unfold q_X2_hasVolume at hR
  by_cases h1 : x1 < 0
  · rewrite [if_pos h1]; simp only [if_pos h1] at hR
    first | exact hR | (simp only [if_pos (show (0 : Int32) = 0 ∨ (0 : Int32) = 1 by decide), if_pos (show (1 : Int32) = 0 ∨ (1 : Int32) = 1 by decide)]; exact hR) | (simp; exact hR)
  · rewrite [if_neg h1]; simp only [if_neg h1] at hR
    by_cases h2 : (3 : Int32) ≤ x1
    · rewrite [if_pos h2]; simp only [if_pos h2] at hR
      first | exact hR | (simp only [if_pos (show (0 : Int32) = 0 ∨ (0 : Int32) = 1 by decide), if_pos (show (1 : Int32) = 0 ∨ (1 : Int32) = 1 by decide)]; exact hR) | (simp; exact hR)
    · rewrite [if_neg h2]; simp only [if_neg h2] at hR
      try rewrite [fI_ok 6 hN.k]
      try rewrite [Option.bind_some]
      try rewrite [p6_0]
      by_cases h3 : (U 0 6) ≤ x1
      · rewrite [if_pos h3]; simp only [if_pos h3] at hR
        first | exact hR | (simp only [if_pos (show (0 : Int32) = 0 ∨ (0 : Int32) = 1 by decide), if_pos (show (1 : Int32) = 0 ∨ (1 : Int32) = 1 by decide)]; exact hR) | (simp; exact hR)
      · rewrite [if_neg h3]; simp only [if_neg h3] at hR
        first | exact hR | (simp only [if_pos (show (0 : Int32) = 0 ∨ (0 : Int32) = 1 by decide), if_pos (show (1 : Int32) = 0 ∨ (1 : Int32) = 1 by decide)]; exact hR) | (simp; exact hR)
theorem b_X2_hasVolume_0 {U : NodV} {x1 : Int32} (h : ¬ q_X2_hasVolume U x1 = 0) : inb x1 3 := by
  unfold q_X2_hasVolume at h
  by_cases k1 : x1 < 0
  · simp only [if_pos k1] at h
    first | exact absurd rfl h | exact absurd trivial h
  · simp only [if_neg k1] at h
    by_cases k2 : (3 : Int32) ≤ x1
    · simp only [if_pos k2] at h
      first | exact absurd rfl h | exact absurd trivial h
    · simp only [if_neg k2] at h
      by_cases k3 : (U 0 6) ≤ x1
      · simp only [if_pos k3] at h
        first | exact absurd rfl h | exact absurd trivial h
      · simp only [if_neg k3] at h
        exact (inb_of rfl k1 k2)
def q_X2_rootOf (U : NodV) (x1 : Int32) : Int32 := (if (q_X2_hasVolume U x1) = 0 then (-1) else U 5 (ix x1))
theorem s_X2_rootOf {J : MJ} {n : Nat} (hN : NodL J n) (X : MI) (U : NodV) (x1 : Int32) : M_X2_rootOf [mR (some n), mI x1] (pt X n U, J) = some (some (mI (q_X2_rootOf U x1)), (pt X n U, J)) := by
  generalize hR : some (some (mI (q_X2_rootOf U x1)), (pt X n U, J)) = R
  rw [E_X2_rootOf]
  unfold q_X2_rootOf at hR
  try simp only [Option.bind_some]
  rewrite [if_pos (show kd (pt X n U, J) n = 2 from hN.k)]
  rewrite [s_X2_hasVolume hN]
  simp only [Option.bind_some, asI_I]
  by_cases h1 : (q_X2_hasVolume U x1) = 0
  · rewrite [if_pos h1]; simp only [if_pos h1] at hR
    exact hR
  · rewrite [if_neg h1]; simp only [if_neg h1] at hR
    try rewrite [fR_ok 4 hN.k]
    try rewrite [Option.bind_some]
    try rewrite [hN.r5]
    try simp only [Option.bind_some]
    try rewrite [ld_ok _ hN.s5 (b_X2_hasVolume_0 h1)]
    try rewrite [Option.bind_some]
    try rewrite [p6_5]
    exact hR
def q_X2_exists (U : NodV) (x1 : Int32) : Int32 := (if x1 < 0 then 0 else (if (60 : Int32) ≤ x1 then 0 else (if (U 0 5) ≤ x1 then 0 else (if (U 4 (ix x1)) = 0 then 0 else 1))))
theorem s_X2_exists {J : MJ} {n : Nat} (hN : NodL J n) (X : MI) (U : NodV) (x1 : Int32) : M_X2_exists [mR (some n), mI x1] (pt X n U, J) = some (some (mI (q_X2_exists U x1)), (pt X n U, J)) := by
  generalize hR : some (some (mI (q_X2_exists U x1)), (pt X n U, J)) = R
  rw [E_X2_exists]
  unfold q_X2_exists at hR
  by_cases h1 : x1 < 0
  · rewrite [if_pos h1]; simp only [if_pos h1] at hR
    first | exact hR | (simp only [if_pos (show (0 : Int32) = 0 ∨ (0 : Int32) = 1 by decide), if_pos (show (1 : Int32) = 0 ∨ (1 : Int32) = 1 by decide)]; exact hR) | (simp; exact hR)
  · rewrite [if_neg h1]; simp only [if_neg h1] at hR
    by_cases h2 : (60 : Int32) ≤ x1
    · rewrite [if_pos h2]; simp only [if_pos h2] at hR
      first | exact hR | (simp only [if_pos (show (0 : Int32) = 0 ∨ (0 : Int32) = 1 by decide), if_pos (show (1 : Int32) = 0 ∨ (1 : Int32) = 1 by decide)]; exact hR) | (simp; exact hR)
    · rewrite [if_neg h2]; simp only [if_neg h2] at hR
      try rewrite [fI_ok 5 hN.k]
      try rewrite [Option.bind_some]
      try rewrite [p6_0]
      by_cases h3 : (U 0 5) ≤ x1
      · rewrite [if_pos h3]; simp only [if_pos h3] at hR
        first | exact hR | (simp only [if_pos (show (0 : Int32) = 0 ∨ (0 : Int32) = 1 by decide), if_pos (show (1 : Int32) = 0 ∨ (1 : Int32) = 1 by decide)]; exact hR) | (simp; exact hR)
      · rewrite [if_neg h3]; simp only [if_neg h3] at hR
        try rewrite [fR_ok 3 hN.k]
        try rewrite [Option.bind_some]
        try rewrite [hN.r4]
        try simp only [Option.bind_some]
        try rewrite [ld_ok _ hN.s4 (inb_of rfl h1 h2)]
        try rewrite [Option.bind_some]
        try rewrite [p6_4]
        by_cases h4 : (U 4 (ix x1)) = 0
        · rewrite [if_pos h4]; simp only [if_pos h4] at hR
          first | exact hR | (simp only [if_pos (show (0 : Int32) = 0 ∨ (0 : Int32) = 1 by decide), if_pos (show (1 : Int32) = 0 ∨ (1 : Int32) = 1 by decide)]; exact hR) | (simp; exact hR)
        · rewrite [if_neg h4]; simp only [if_neg h4] at hR
          first | exact hR | (simp only [if_pos (show (0 : Int32) = 0 ∨ (0 : Int32) = 1 by decide), if_pos (show (1 : Int32) = 0 ∨ (1 : Int32) = 1 by decide)]; exact hR) | (simp; exact hR)
theorem b_X2_exists_0 {U : NodV} {x1 : Int32} (h : ¬ q_X2_exists U x1 = 0) : inb x1 60 := by
  unfold q_X2_exists at h
  by_cases k1 : x1 < 0
  · simp only [if_pos k1] at h
    first | exact absurd rfl h | exact absurd trivial h
  · simp only [if_neg k1] at h
    by_cases k2 : (60 : Int32) ≤ x1
    · simp only [if_pos k2] at h
      first | exact absurd rfl h | exact absurd trivial h
    · simp only [if_neg k2] at h
      by_cases k3 : (U 0 5) ≤ x1
      · simp only [if_pos k3] at h
        first | exact absurd rfl h | exact absurd trivial h
      · simp only [if_neg k3] at h
        by_cases k4 : (U 4 (ix x1)) = 0
        · simp only [if_pos k4] at h
          first | exact absurd rfl h | exact absurd trivial h
        · simp only [if_neg k4] at h
          exact (inb_of rfl k1 k2)
def q_X2_isFolder (U : NodV) (x1 : Int32) : Int32 := (if (q_X2_exists U x1) = 0 then 0 else (if (U 4 (ix x1)) = 2 then 1 else 0))
theorem s_X2_isFolder {J : MJ} {n : Nat} (hN : NodL J n) (X : MI) (U : NodV) (x1 : Int32) : M_X2_isFolder [mR (some n), mI x1] (pt X n U, J) = some (some (mI (q_X2_isFolder U x1)), (pt X n U, J)) := by
  generalize hR : some (some (mI (q_X2_isFolder U x1)), (pt X n U, J)) = R
  rw [E_X2_isFolder]
  unfold q_X2_isFolder at hR
  try simp only [Option.bind_some]
  rewrite [if_pos (show kd (pt X n U, J) n = 2 from hN.k)]
  rewrite [s_X2_exists hN]
  simp only [Option.bind_some, asI_I]
  by_cases h1 : (q_X2_exists U x1) = 0
  · rewrite [if_pos h1]; simp only [if_pos h1] at hR
    first | exact hR | (simp only [if_pos (show (0 : Int32) = 0 ∨ (0 : Int32) = 1 by decide), if_pos (show (1 : Int32) = 0 ∨ (1 : Int32) = 1 by decide)]; exact hR) | (simp; exact hR)
  · rewrite [if_neg h1]; simp only [if_neg h1] at hR
    try rewrite [fR_ok 3 hN.k]
    try rewrite [Option.bind_some]
    try rewrite [hN.r4]
    try simp only [Option.bind_some]
    try rewrite [ld_ok _ hN.s4 (b_X2_exists_0 h1)]
    try rewrite [Option.bind_some]
    try rewrite [p6_4]
    by_cases h2 : (U 4 (ix x1)) = 2
    · rewrite [if_pos h2]; simp only [if_pos h2] at hR
      first | exact hR | (simp only [if_pos (show (0 : Int32) = 0 ∨ (0 : Int32) = 1 by decide), if_pos (show (1 : Int32) = 0 ∨ (1 : Int32) = 1 by decide)]; exact hR) | (simp; exact hR)
    · rewrite [if_neg h2]; simp only [if_neg h2] at hR
      first | exact hR | (simp only [if_pos (show (0 : Int32) = 0 ∨ (0 : Int32) = 1 by decide), if_pos (show (1 : Int32) = 0 ∨ (1 : Int32) = 1 by decide)]; exact hR) | (simp; exact hR)
theorem b_X2_isFolder_0 {U : NodV} {x1 : Int32} (h : ¬ q_X2_isFolder U x1 = 0) : inb x1 60 := by
  unfold q_X2_isFolder at h
  by_cases k1 : (q_X2_exists U x1) = 0
  · simp only [if_pos k1] at h
    first | exact absurd rfl h | exact absurd trivial h
  · simp only [if_neg k1] at h
    by_cases k2 : (U 4 (ix x1)) = 2
    · simp only [if_pos k2] at h
      exact (b_X2_exists_0 k1)
    · simp only [if_neg k2] at h
      first | exact absurd rfl h | exact absurd trivial h
theorem P_X2_find {J : MJ} {n : Nat} (hN : NodL J n) (X : MI) (U : NodV) (x1 : Int32) (x2 : Int32) : M_X2_find [mR (some n), mI x1, mI x2] (pt X n U, J) = Ev T_X2_find 2 [some (mR (some n)), some (mI x1), some (mI x2), some (mI 0)] [] (pt X n U, J) := by
  generalize hR : Ev T_X2_find 2 [some (mR (some n)), some (mI x1), some (mI x2), some (mI 0)] [] (pt X n U, J) = R
  rw [E_X2_find]
  exact hR
theorem P_X2_find_2 {J : MJ} {n : Nat} (hN : NodL J n) (X : MI) (U : NodV) (x1 : Int32) (x2 : Int32) (x3 : Int32) (h_x3 : ¬ x3 < 0) : Ev T_X2_find 2 [some (mR (some n)), some (mI x1), some (mI x2), some (mI x3)] [] (pt X n U, J) = (if (U 0 5) ≤ x3 then some (some (mI ((-1))), (pt X n U, J)) else (if (60 : Int32) ≤ x3 then some (some (mI ((-1))), (pt X n U, J)) else (if (U 4 (ix x3)) = 0 then Ev T_X2_find 2 [some (mR (some n)), some (mI x1), some (mI x2), some (mI (x3 + 1))] [] (pt X n U, J) else (if (U 2 (ix x3)) = x1 then (if (U 3 (ix x3)) = x2 then some (some (mI x3), (pt X n U, J)) else Ev T_X2_find 2 [some (mR (some n)), some (mI x1), some (mI x2), some (mI (x3 + 1))] [] (pt X n U, J)) else Ev T_X2_find 2 [some (mR (some n)), some (mI x1), some (mI x2), some (mI (x3 + 1))] [] (pt X n U, J))))) := by
  generalize hR : (if (U 0 5) ≤ x3 then some (some (mI ((-1))), (pt X n U, J)) else (if (60 : Int32) ≤ x3 then some (some (mI ((-1))), (pt X n U, J)) else (if (U 4 (ix x3)) = 0 then Ev T_X2_find 2 [some (mR (some n)), some (mI x1), some (mI x2), some (mI (x3 + 1))] [] (pt X n U, J) else (if (U 2 (ix x3)) = x1 then (if (U 3 (ix x3)) = x2 then some (some (mI x3), (pt X n U, J)) else Ev T_X2_find 2 [some (mR (some n)), some (mI x1), some (mI x2), some (mI (x3 + 1))] [] (pt X n U, J)) else Ev T_X2_find 2 [some (mR (some n)), some (mI x1), some (mI x2), some (mI (x3 + 1))] [] (pt X n U, J))))) = R
  rw [E_X2_find_2]
  try rewrite [fI_ok 5 hN.k]
  try rewrite [Option.bind_some]
  try rewrite [p6_0]
  by_cases h1 : (U 0 5) ≤ x3
  · rewrite [if_pos h1]; simp only [if_pos h1] at hR
    exact hR
  · rewrite [if_neg h1]; simp only [if_neg h1] at hR
    by_cases h2 : (60 : Int32) ≤ x3
    · rewrite [if_pos h2]; simp only [if_pos h2] at hR
      exact hR
    · rewrite [if_neg h2]; simp only [if_neg h2] at hR
      try rewrite [fR_ok 3 hN.k]
      try rewrite [Option.bind_some]
      try rewrite [hN.r4]
      try simp only [Option.bind_some]
      try rewrite [ld_ok _ hN.s4 (inb_of rfl h_x3 h2)]
      try rewrite [Option.bind_some]
      try rewrite [p6_4]
      by_cases h3 : (U 4 (ix x3)) = 0
      · rewrite [if_pos h3]; simp only [if_pos h3] at hR
        exact hR
      · rewrite [if_neg h3]; simp only [if_neg h3] at hR
        try rewrite [fR_ok 1 hN.k]
        try rewrite [Option.bind_some]
        try rewrite [hN.r2]
        try simp only [Option.bind_some]
        try rewrite [ld_ok _ hN.s2 (inb_of rfl h_x3 h2)]
        try rewrite [Option.bind_some]
        try rewrite [p6_2]
        by_cases h4 : (U 2 (ix x3)) = x1
        · rewrite [if_pos h4]; simp only [if_pos h4] at hR
          try rewrite [fR_ok 2 hN.k]
          try rewrite [Option.bind_some]
          try rewrite [hN.r3]
          try simp only [Option.bind_some]
          try rewrite [ld_ok _ hN.s3 (inb_of rfl h_x3 h2)]
          try rewrite [Option.bind_some]
          try rewrite [p6_3]
          by_cases h5 : (U 3 (ix x3)) = x2
          · rewrite [if_pos h5]; simp only [if_pos h5] at hR
            exact hR
          · rewrite [if_neg h5]; simp only [if_neg h5] at hR
            exact hR
        · rewrite [if_neg h4]; simp only [if_neg h4] at hR
          exact hR
def q_X2_put (U : NodV) (x1 : Int32) (x2 : Int32) (x3 : Int32) (x4 : Int32) : Int32 := (if (U 0 5) < 0 then (-1) else (if (U 0 5) < 60 then U 0 5 else (-1)))
def gU_X2_put (U : NodV) (x1 : Int32) (x2 : Int32) (x3 : Int32) (x4 : Int32) : NodV := (if (U 0 5) < 0 then U else (if (U 0 5) < 60 then uv (uv (uv (uv (uv U 0 5 ((U 0 5) + 1)) 1 (ix (U 0 5)) x1) 2 (ix (U 0 5)) x2) 3 (ix (U 0 5)) x3) 4 (ix (U 0 5)) x4 else U))
theorem s_X2_put {J : MJ} {n : Nat} (hN : NodL J n) (X : MI) (U : NodV) (x1 : Int32) (x2 : Int32) (x3 : Int32) (x4 : Int32) : M_X2_put [mR (some n), mI x1, mI x2, mI x3, mI x4] (pt X n U, J) = some (some (mI (q_X2_put U x1 x2 x3 x4)), (pt X n (gU_X2_put U x1 x2 x3 x4), J)) := by
  generalize hR : some (some (mI (q_X2_put U x1 x2 x3 x4)), (pt X n (gU_X2_put U x1 x2 x3 x4), J)) = R
  rw [E_X2_put]
  unfold q_X2_put gU_X2_put at hR
  try rewrite [fI_ok 5 hN.k]
  try rewrite [Option.bind_some]
  try rewrite [p6_0]
  by_cases h1 : (U 0 5) < 0
  · rewrite [if_pos h1]; simp only [if_pos h1] at hR
    exact hR
  · rewrite [if_neg h1]; simp only [if_neg h1] at hR
    by_cases h2 : (U 0 5) < 60
    · rewrite [if_pos h2]; simp only [if_pos h2] at hR
      try rewrite [fI_ok 5 hN.k]
      try rewrite [Option.bind_some]
      try rewrite [p6_0]
      try rewrite [wI_ok 5 _ hN.k]
      try rewrite [Option.bind_some]
      try rewrite [u6_0]
      try rewrite [fR_ok 0 hN.k]
      try rewrite [Option.bind_some]
      try rewrite [hN.r1]
      try simp only [Option.bind_some]
      try rewrite [st_ok _ _ hN.s1 (inb_of rfl h1 (Int32.not_le.mpr h2))]
      try rewrite [Option.bind_some]
      try rewrite [u6_1]
      try rewrite [fR_ok 1 hN.k]
      try rewrite [Option.bind_some]
      try rewrite [hN.r2]
      try simp only [Option.bind_some]
      try rewrite [st_ok _ _ hN.s2 (inb_of rfl h1 (Int32.not_le.mpr h2))]
      try rewrite [Option.bind_some]
      try rewrite [u6_2]
      try rewrite [fR_ok 2 hN.k]
      try rewrite [Option.bind_some]
      try rewrite [hN.r3]
      try simp only [Option.bind_some]
      try rewrite [st_ok _ _ hN.s3 (inb_of rfl h1 (Int32.not_le.mpr h2))]
      try rewrite [Option.bind_some]
      try rewrite [u6_3]
      try rewrite [fR_ok 3 hN.k]
      try rewrite [Option.bind_some]
      try rewrite [hN.r4]
      try simp only [Option.bind_some]
      try rewrite [st_ok _ _ hN.s4 (inb_of rfl h1 (Int32.not_le.mpr h2))]
      try rewrite [Option.bind_some]
      try rewrite [u6_4]
      exact hR
    · rewrite [if_neg h2]; simp only [if_neg h2] at hR
      exact hR
def q_X2_addIn (U : NodV) (x1 : Int32) (x2 : Int32) (x3 : Int32) : Int32 := (if (q_X2_isFolder U x1) = 0 then (-1) else q_X2_put U (U 1 (ix x1)) x1 x2 x3)
def gU_X2_addIn (U : NodV) (x1 : Int32) (x2 : Int32) (x3 : Int32) : NodV := (if (q_X2_isFolder U x1) = 0 then U else gU_X2_put U (U 1 (ix x1)) x1 x2 x3)
theorem s_X2_addIn {J : MJ} {n : Nat} (hN : NodL J n) (X : MI) (U : NodV) (x1 : Int32) (x2 : Int32) (x3 : Int32) : M_X2_addIn [mR (some n), mI x1, mI x2, mI x3] (pt X n U, J) = some (some (mI (q_X2_addIn U x1 x2 x3)), (pt X n (gU_X2_addIn U x1 x2 x3), J)) := by
  generalize hR : some (some (mI (q_X2_addIn U x1 x2 x3)), (pt X n (gU_X2_addIn U x1 x2 x3), J)) = R
  rw [E_X2_addIn]
  unfold q_X2_addIn gU_X2_addIn at hR
  try simp only [Option.bind_some]
  rewrite [if_pos (show kd (pt X n U, J) n = 2 from hN.k)]
  rewrite [s_X2_isFolder hN]
  simp only [Option.bind_some, asI_I]
  by_cases h1 : (q_X2_isFolder U x1) = 0
  · rewrite [if_pos h1]; simp only [if_pos h1] at hR
    exact hR
  · rewrite [if_neg h1]; simp only [if_neg h1] at hR
    try rewrite [fR_ok 0 hN.k]
    try rewrite [Option.bind_some]
    try rewrite [hN.r1]
    try simp only [Option.bind_some]
    try rewrite [ld_ok _ hN.s1 (b_X2_isFolder_0 h1)]
    try rewrite [Option.bind_some]
    try rewrite [p6_1]
    try simp only [Option.bind_some]
    rewrite [if_pos (show kd (pt X n U, J) n = 2 from hN.k)]
    rewrite [s_X2_put hN]
    simp only [Option.bind_some, asI_I]
    exact hR
def q_X2_volumeOf (U : NodV) (x1 : Int32) : Int32 := (if x1 < 0 then (-1) else (if (60 : Int32) ≤ x1 then (-1) else (if (U 0 5) ≤ x1 then (-1) else U 1 (ix x1))))
theorem s_X2_volumeOf {J : MJ} {n : Nat} (hN : NodL J n) (X : MI) (U : NodV) (x1 : Int32) : M_X2_volumeOf [mR (some n), mI x1] (pt X n U, J) = some (some (mI (q_X2_volumeOf U x1)), (pt X n U, J)) := by
  generalize hR : some (some (mI (q_X2_volumeOf U x1)), (pt X n U, J)) = R
  rw [E_X2_volumeOf]
  unfold q_X2_volumeOf at hR
  by_cases h1 : x1 < 0
  · rewrite [if_pos h1]; simp only [if_pos h1] at hR
    exact hR
  · rewrite [if_neg h1]; simp only [if_neg h1] at hR
    by_cases h2 : (60 : Int32) ≤ x1
    · rewrite [if_pos h2]; simp only [if_pos h2] at hR
      exact hR
    · rewrite [if_neg h2]; simp only [if_neg h2] at hR
      try rewrite [fI_ok 5 hN.k]
      try rewrite [Option.bind_some]
      try rewrite [p6_0]
      by_cases h3 : (U 0 5) ≤ x1
      · rewrite [if_pos h3]; simp only [if_pos h3] at hR
        exact hR
      · rewrite [if_neg h3]; simp only [if_neg h3] at hR
        try rewrite [fR_ok 0 hN.k]
        try rewrite [Option.bind_some]
        try rewrite [hN.r1]
        try simp only [Option.bind_some]
        try rewrite [ld_ok _ hN.s1 (inb_of rfl h1 h2)]
        try rewrite [Option.bind_some]
        try rewrite [p6_1]
        exact hR
def gU_X2_clear (U : NodV) : NodV := uv (uv U 0 5 0) 0 6 0
theorem s_X2_clear {J : MJ} {n : Nat} (hN : NodL J n) (X : MI) (U : NodV) : M_X2_clear [mR (some n)] (pt X n U, J) = some (none, (pt X n (gU_X2_clear U), J)) := by
  generalize hR : some (none, (pt X n (gU_X2_clear U), J)) = R
  rw [E_X2_clear]
  unfold gU_X2_clear at hR
  try rewrite [wI_ok 5 _ hN.k]
  try rewrite [Option.bind_some]
  try rewrite [u6_0]
  try rewrite [wI_ok 6 _ hN.k]
  try rewrite [Option.bind_some]
  try rewrite [u6_0]
  exact hR
def q_X2_isFull (U : NodV) : Int32 := (if (U 0 5) < 60 then 0 else 1)
theorem s_X2_isFull {J : MJ} {n : Nat} (hN : NodL J n) (X : MI) (U : NodV) : M_X2_isFull [mR (some n)] (pt X n U, J) = some (some (mI (q_X2_isFull U)), (pt X n U, J)) := by
  generalize hR : some (some (mI (q_X2_isFull U)), (pt X n U, J)) = R
  rw [E_X2_isFull]
  unfold q_X2_isFull at hR
  try rewrite [fI_ok 5 hN.k]
  try rewrite [Option.bind_some]
  try rewrite [p6_0]
  by_cases h1 : (U 0 5) < 60
  · rewrite [if_pos h1]; simp only [if_pos h1] at hR
    first | exact hR | (simp only [if_pos (show (0 : Int32) = 0 ∨ (0 : Int32) = 1 by decide), if_pos (show (1 : Int32) = 0 ∨ (1 : Int32) = 1 by decide)]; exact hR) | (simp; exact hR)
  · rewrite [if_neg h1]; simp only [if_neg h1] at hR
    first | exact hR | (simp only [if_pos (show (0 : Int32) = 0 ∨ (0 : Int32) = 1 by decide), if_pos (show (1 : Int32) = 0 ∨ (1 : Int32) = 1 by decide)]; exact hR) | (simp; exact hR)
def q_X2_parentOf (U : NodV) (x1 : Int32) : Int32 := (if (q_X2_exists U x1) = 0 then (-1) else U 2 (ix x1))
theorem s_X2_parentOf {J : MJ} {n : Nat} (hN : NodL J n) (X : MI) (U : NodV) (x1 : Int32) : M_X2_parentOf [mR (some n), mI x1] (pt X n U, J) = some (some (mI (q_X2_parentOf U x1)), (pt X n U, J)) := by
  generalize hR : some (some (mI (q_X2_parentOf U x1)), (pt X n U, J)) = R
  rw [E_X2_parentOf]
  unfold q_X2_parentOf at hR
  try simp only [Option.bind_some]
  rewrite [if_pos (show kd (pt X n U, J) n = 2 from hN.k)]
  rewrite [s_X2_exists hN]
  simp only [Option.bind_some, asI_I]
  by_cases h1 : (q_X2_exists U x1) = 0
  · rewrite [if_pos h1]; simp only [if_pos h1] at hR
    exact hR
  · rewrite [if_neg h1]; simp only [if_neg h1] at hR
    try rewrite [fR_ok 1 hN.k]
    try rewrite [Option.bind_some]
    try rewrite [hN.r2]
    try simp only [Option.bind_some]
    try rewrite [ld_ok _ hN.s2 (b_X2_exists_0 h1)]
    try rewrite [Option.bind_some]
    try rewrite [p6_2]
    exact hR
def q_X2_nameOf (U : NodV) (x1 : Int32) : Int32 := (if (q_X2_exists U x1) = 0 then 0 else U 3 (ix x1))
theorem s_X2_nameOf {J : MJ} {n : Nat} (hN : NodL J n) (X : MI) (U : NodV) (x1 : Int32) : M_X2_nameOf [mR (some n), mI x1] (pt X n U, J) = some (some (mI (q_X2_nameOf U x1)), (pt X n U, J)) := by
  generalize hR : some (some (mI (q_X2_nameOf U x1)), (pt X n U, J)) = R
  rw [E_X2_nameOf]
  unfold q_X2_nameOf at hR
  try simp only [Option.bind_some]
  rewrite [if_pos (show kd (pt X n U, J) n = 2 from hN.k)]
  rewrite [s_X2_exists hN]
  simp only [Option.bind_some, asI_I]
  by_cases h1 : (q_X2_exists U x1) = 0
  · rewrite [if_pos h1]; simp only [if_pos h1] at hR
    exact hR
  · rewrite [if_neg h1]; simp only [if_neg h1] at hR
    try rewrite [fR_ok 2 hN.k]
    try rewrite [Option.bind_some]
    try rewrite [hN.r3]
    try simp only [Option.bind_some]
    try rewrite [ld_ok _ hN.s3 (b_X2_exists_0 h1)]
    try rewrite [Option.bind_some]
    try rewrite [p6_3]
    exact hR
theorem b_X2_nameOf_0 {U : NodV} {x1 : Int32} (h : ¬ q_X2_nameOf U x1 = 0) : inb x1 60 := by
  unfold q_X2_nameOf at h
  by_cases k1 : (q_X2_exists U x1) = 0
  · simp only [if_pos k1] at h
    first | exact absurd rfl h | exact absurd trivial h
  · simp only [if_neg k1] at h
    exact (b_X2_exists_0 k1)
def gU_X2_becomeFolder (U : NodV) (x1 : Int32) : NodV := (if (q_X2_exists U x1) = 0 then U else uv U 4 (ix x1) 2)
theorem s_X2_becomeFolder {J : MJ} {n : Nat} (hN : NodL J n) (X : MI) (U : NodV) (x1 : Int32) : M_X2_becomeFolder [mR (some n), mI x1] (pt X n U, J) = some (none, (pt X n (gU_X2_becomeFolder U x1), J)) := by
  generalize hR : some (none, (pt X n (gU_X2_becomeFolder U x1), J)) = R
  rw [E_X2_becomeFolder]
  unfold gU_X2_becomeFolder at hR
  try simp only [Option.bind_some]
  rewrite [if_pos (show kd (pt X n U, J) n = 2 from hN.k)]
  rewrite [s_X2_exists hN]
  simp only [Option.bind_some, asI_I]
  by_cases h1 : (q_X2_exists U x1) = 0
  · rewrite [if_pos h1]; simp only [if_pos h1] at hR
    exact hR
  · rewrite [if_neg h1]; simp only [if_neg h1] at hR
    try rewrite [fR_ok 3 hN.k]
    try rewrite [Option.bind_some]
    try rewrite [hN.r4]
    try simp only [Option.bind_some]
    try rewrite [st_ok _ _ hN.s4 (b_X2_exists_0 h1)]
    try rewrite [Option.bind_some]
    try rewrite [u6_4]
    exact hR
def gU_X2_take (U : NodV) (x1 : Int32) : NodV := (if (q_X2_exists U x1) = 0 then U else uv U 4 (ix x1) 0)
theorem s_X2_take {J : MJ} {n : Nat} (hN : NodL J n) (X : MI) (U : NodV) (x1 : Int32) : M_X2_take [mR (some n), mI x1] (pt X n U, J) = some (none, (pt X n (gU_X2_take U x1), J)) := by
  generalize hR : some (none, (pt X n (gU_X2_take U x1), J)) = R
  rw [E_X2_take]
  unfold gU_X2_take at hR
  try simp only [Option.bind_some]
  rewrite [if_pos (show kd (pt X n U, J) n = 2 from hN.k)]
  rewrite [s_X2_exists hN]
  simp only [Option.bind_some, asI_I]
  by_cases h1 : (q_X2_exists U x1) = 0
  · rewrite [if_pos h1]; simp only [if_pos h1] at hR
    exact hR
  · rewrite [if_neg h1]; simp only [if_neg h1] at hR
    try rewrite [fR_ok 3 hN.k]
    try rewrite [Option.bind_some]
    try rewrite [hN.r4]
    try simp only [Option.bind_some]
    try rewrite [st_ok _ _ hN.s4 (b_X2_exists_0 h1)]
    try rewrite [Option.bind_some]
    try rewrite [u6_4]
    exact hR
def gU_X2_move (U : NodV) (x1 : Int32) (x2 : Int32) (x3 : Int32) : NodV := (if (q_X2_exists U x1) = 0 then U else (if (q_X2_isFolder U x2) = 0 then U else uv (uv U 2 (ix x1) x2) 3 (ix x1) x3))
theorem s_X2_move {J : MJ} {n : Nat} (hN : NodL J n) (X : MI) (U : NodV) (x1 : Int32) (x2 : Int32) (x3 : Int32) : M_X2_move [mR (some n), mI x1, mI x2, mI x3] (pt X n U, J) = some (none, (pt X n (gU_X2_move U x1 x2 x3), J)) := by
  generalize hR : some (none, (pt X n (gU_X2_move U x1 x2 x3), J)) = R
  rw [E_X2_move]
  unfold gU_X2_move at hR
  try simp only [Option.bind_some]
  rewrite [if_pos (show kd (pt X n U, J) n = 2 from hN.k)]
  rewrite [s_X2_exists hN]
  simp only [Option.bind_some, asI_I]
  by_cases h1 : (q_X2_exists U x1) = 0
  · rewrite [if_pos h1]; simp only [if_pos h1] at hR
    exact hR
  · rewrite [if_neg h1]; simp only [if_neg h1] at hR
    try simp only [Option.bind_some]
    rewrite [if_pos (show kd (pt X n U, J) n = 2 from hN.k)]
    rewrite [s_X2_isFolder hN]
    simp only [Option.bind_some, asI_I]
    by_cases h2 : (q_X2_isFolder U x2) = 0
    · rewrite [if_pos h2]; simp only [if_pos h2] at hR
      exact hR
    · rewrite [if_neg h2]; simp only [if_neg h2] at hR
      try rewrite [fR_ok 1 hN.k]
      try rewrite [Option.bind_some]
      try rewrite [hN.r2]
      try simp only [Option.bind_some]
      try rewrite [st_ok _ _ hN.s2 (b_X2_exists_0 h1)]
      try rewrite [Option.bind_some]
      try rewrite [u6_2]
      try rewrite [fR_ok 2 hN.k]
      try rewrite [Option.bind_some]
      try rewrite [hN.r3]
      try simp only [Option.bind_some]
      try rewrite [st_ok _ _ hN.s3 (b_X2_exists_0 h1)]
      try rewrite [Option.bind_some]
      try rewrite [u6_3]
      exact hR
theorem P_X2_howManyIn {J : MJ} {n : Nat} (hN : NodL J n) (X : MI) (U : NodV) (x1 : Int32) : M_X2_howManyIn [mR (some n), mI x1] (pt X n U, J) = Ev T_X2_howManyIn 4 [some (mR (some n)), some (mI x1), some (mI 0), some (mI 0)] [] (pt X n U, J) := by
  generalize hR : Ev T_X2_howManyIn 4 [some (mR (some n)), some (mI x1), some (mI 0), some (mI 0)] [] (pt X n U, J) = R
  rw [E_X2_howManyIn]
  exact hR
theorem P_X2_howManyIn_4 {J : MJ} {n : Nat} (hN : NodL J n) (X : MI) (U : NodV) (x1 : Int32) (x2 : Int32) (x3 : Int32) (h_x3 : ¬ x3 < 0) : Ev T_X2_howManyIn 4 [some (mR (some n)), some (mI x1), some (mI x2), some (mI x3)] [] (pt X n U, J) = (if (U 0 5) ≤ x3 then some (some (mI x2), (pt X n U, J)) else (if (60 : Int32) ≤ x3 then some (some (mI x2), (pt X n U, J)) else (if (U 4 (ix x3)) = 0 then Ev T_X2_howManyIn 4 [some (mR (some n)), some (mI x1), some (mI x2), some (mI (x3 + 1))] [] (pt X n U, J) else (if (U 2 (ix x3)) = x1 then Ev T_X2_howManyIn 4 [some (mR (some n)), some (mI x1), some (mI (x2 + 1)), some (mI (x3 + 1))] [] (pt X n U, J) else Ev T_X2_howManyIn 4 [some (mR (some n)), some (mI x1), some (mI x2), some (mI (x3 + 1))] [] (pt X n U, J))))) := by
  generalize hR : (if (U 0 5) ≤ x3 then some (some (mI x2), (pt X n U, J)) else (if (60 : Int32) ≤ x3 then some (some (mI x2), (pt X n U, J)) else (if (U 4 (ix x3)) = 0 then Ev T_X2_howManyIn 4 [some (mR (some n)), some (mI x1), some (mI x2), some (mI (x3 + 1))] [] (pt X n U, J) else (if (U 2 (ix x3)) = x1 then Ev T_X2_howManyIn 4 [some (mR (some n)), some (mI x1), some (mI (x2 + 1)), some (mI (x3 + 1))] [] (pt X n U, J) else Ev T_X2_howManyIn 4 [some (mR (some n)), some (mI x1), some (mI x2), some (mI (x3 + 1))] [] (pt X n U, J))))) = R
  rw [E_X2_howManyIn_4]
  try rewrite [fI_ok 5 hN.k]
  try rewrite [Option.bind_some]
  try rewrite [p6_0]
  by_cases h1 : (U 0 5) ≤ x3
  · rewrite [if_pos h1]; simp only [if_pos h1] at hR
    exact hR
  · rewrite [if_neg h1]; simp only [if_neg h1] at hR
    by_cases h2 : (60 : Int32) ≤ x3
    · rewrite [if_pos h2]; simp only [if_pos h2] at hR
      exact hR
    · rewrite [if_neg h2]; simp only [if_neg h2] at hR
      try rewrite [fR_ok 3 hN.k]
      try rewrite [Option.bind_some]
      try rewrite [hN.r4]
      try simp only [Option.bind_some]
      try rewrite [ld_ok _ hN.s4 (inb_of rfl h_x3 h2)]
      try rewrite [Option.bind_some]
      try rewrite [p6_4]
      by_cases h3 : (U 4 (ix x3)) = 0
      · rewrite [if_pos h3]; simp only [if_pos h3] at hR
        exact hR
      · rewrite [if_neg h3]; simp only [if_neg h3] at hR
        try rewrite [fR_ok 1 hN.k]
        try rewrite [Option.bind_some]
        try rewrite [hN.r2]
        try simp only [Option.bind_some]
        try rewrite [ld_ok _ hN.s2 (inb_of rfl h_x3 h2)]
        try rewrite [Option.bind_some]
        try rewrite [p6_2]
        by_cases h4 : (U 2 (ix x3)) = x1
        · rewrite [if_pos h4]; simp only [if_pos h4] at hR
          exact hR
        · rewrite [if_neg h4]; simp only [if_neg h4] at hR
          exact hR
theorem P_X2_howMany {J : MJ} {n : Nat} (hN : NodL J n) (X : MI) (U : NodV) : M_X2_howMany [mR (some n)] (pt X n U, J) = Ev T_X2_howMany 4 [some (mR (some n)), some (mI 0), some (mI 0)] [] (pt X n U, J) := by
  generalize hR : Ev T_X2_howMany 4 [some (mR (some n)), some (mI 0), some (mI 0)] [] (pt X n U, J) = R
  rw [E_X2_howMany]
  exact hR
theorem P_X2_howMany_4 {J : MJ} {n : Nat} (hN : NodL J n) (X : MI) (U : NodV) (x1 : Int32) (x2 : Int32) (h_x2 : ¬ x2 < 0) : Ev T_X2_howMany 4 [some (mR (some n)), some (mI x1), some (mI x2)] [] (pt X n U, J) = (if (U 0 5) ≤ x2 then some (some (mI x1), (pt X n U, J)) else (if (60 : Int32) ≤ x2 then some (some (mI x1), (pt X n U, J)) else (if (U 4 (ix x2)) = 0 then Ev T_X2_howMany 4 [some (mR (some n)), some (mI (x1 + 0)), some (mI (x2 + 1))] [] (pt X n U, J) else Ev T_X2_howMany 4 [some (mR (some n)), some (mI (x1 + 1)), some (mI (x2 + 1))] [] (pt X n U, J)))) := by
  generalize hR : (if (U 0 5) ≤ x2 then some (some (mI x1), (pt X n U, J)) else (if (60 : Int32) ≤ x2 then some (some (mI x1), (pt X n U, J)) else (if (U 4 (ix x2)) = 0 then Ev T_X2_howMany 4 [some (mR (some n)), some (mI (x1 + 0)), some (mI (x2 + 1))] [] (pt X n U, J) else Ev T_X2_howMany 4 [some (mR (some n)), some (mI (x1 + 1)), some (mI (x2 + 1))] [] (pt X n U, J)))) = R
  rw [E_X2_howMany_4]
  try rewrite [fI_ok 5 hN.k]
  try rewrite [Option.bind_some]
  try rewrite [p6_0]
  by_cases h1 : (U 0 5) ≤ x2
  · rewrite [if_pos h1]; simp only [if_pos h1] at hR
    exact hR
  · rewrite [if_neg h1]; simp only [if_neg h1] at hR
    by_cases h2 : (60 : Int32) ≤ x2
    · rewrite [if_pos h2]; simp only [if_pos h2] at hR
      exact hR
    · rewrite [if_neg h2]; simp only [if_neg h2] at hR
      try rewrite [fR_ok 3 hN.k]
      try rewrite [Option.bind_some]
      try rewrite [hN.r4]
      try simp only [Option.bind_some]
      try rewrite [ld_ok _ hN.s4 (inb_of rfl h_x2 h2)]
      try rewrite [Option.bind_some]
      try rewrite [p6_4]
      by_cases h3 : (U 4 (ix x2)) = 0
      · rewrite [if_pos h3]; simp only [if_pos h3] at hR
        exact hR
      · rewrite [if_neg h3]; simp only [if_neg h3] at hR
        exact hR
def q_X5_at (Q : RouV) (x1 : Int32) : Int32 := (if x1 < 0 then (-1) else (if (Q 0 1) ≤ x1 then (-1) else (if (400 : Int32) ≤ x1 then (-1) else Q 1 (ix x1))))
theorem s_X5_at {J : MJ} {t : Nat} (hT : TapL J t) (X : MI) (Q : RouV) (x1 : Int32) : M_X5_at [mR (some t), mI x1] (pt X t Q, J) = some (some (mI (q_X5_at Q x1)), (pt X t Q, J)) := by
  generalize hR : some (some (mI (q_X5_at Q x1)), (pt X t Q, J)) = R
  rw [E_X5_at]
  unfold q_X5_at at hR
  by_cases h1 : x1 < 0
  · rewrite [if_pos h1]; simp only [if_pos h1] at hR
    exact hR
  · rewrite [if_neg h1]; simp only [if_neg h1] at hR
    try rewrite [fI_ok 1 hT.k]
    try rewrite [Option.bind_some]
    try rewrite [p2_0]
    by_cases h2 : (Q 0 1) ≤ x1
    · rewrite [if_pos h2]; simp only [if_pos h2] at hR
      exact hR
    · rewrite [if_neg h2]; simp only [if_neg h2] at hR
      by_cases h3 : (400 : Int32) ≤ x1
      · rewrite [if_pos h3]; simp only [if_pos h3] at hR
        exact hR
      · rewrite [if_neg h3]; simp only [if_neg h3] at hR
        try rewrite [fR_ok 0 hT.k]
        try rewrite [Option.bind_some]
        try rewrite [hT.r1]
        try simp only [Option.bind_some]
        try rewrite [ld_ok _ hT.s1 (inb_of rfl h1 h3)]
        try rewrite [Option.bind_some]
        try rewrite [p2_1]
        exact hR
def q_X5_hasSpace (Q : RouV) (x1 : Int32) : Int32 := (if (400 : Int32) < ((Q 0 1) + x1) then 0 else 1)
theorem s_X5_hasSpace {J : MJ} {t : Nat} (hT : TapL J t) (X : MI) (Q : RouV) (x1 : Int32) : M_X5_hasSpace [mR (some t), mI x1] (pt X t Q, J) = some (some (mI (q_X5_hasSpace Q x1)), (pt X t Q, J)) := by
  generalize hR : some (some (mI (q_X5_hasSpace Q x1)), (pt X t Q, J)) = R
  rw [E_X5_hasSpace]
  unfold q_X5_hasSpace at hR
  try rewrite [fI_ok 1 hT.k]
  try rewrite [Option.bind_some]
  try rewrite [p2_0]
  by_cases h1 : (400 : Int32) < ((Q 0 1) + x1)
  · rewrite [if_pos h1]; simp only [if_pos h1] at hR
    first | exact hR | (simp only [if_pos (show (0 : Int32) = 0 ∨ (0 : Int32) = 1 by decide), if_pos (show (1 : Int32) = 0 ∨ (1 : Int32) = 1 by decide)]; exact hR) | (simp; exact hR)
  · rewrite [if_neg h1]; simp only [if_neg h1] at hR
    first | exact hR | (simp only [if_pos (show (0 : Int32) = 0 ∨ (0 : Int32) = 1 by decide), if_pos (show (1 : Int32) = 0 ∨ (1 : Int32) = 1 by decide)]; exact hR) | (simp; exact hR)
theorem P_X5_addWord {J : MJ} {t : Nat} (hT : TapL J t) (X : MI) (Q : RouV) (x1 : Int32) : M_X5_addWord [mR (some t), mI x1] (pt X t Q, J) = Ev T_X5_addWord 3 [some (mR (some t)), some (mI x1), some (mI 24)] [] (pt X t Q, J) := by
  generalize hR : Ev T_X5_addWord 3 [some (mR (some t)), some (mI x1), some (mI 24)] [] (pt X t Q, J) = R
  rw [E_X5_addWord]
  exact hR
theorem P_X5_addWord_3 {J : MJ} {t : Nat} (hT : TapL J t) (X : MI) (Q : RouV) (x1 : Int32) (x2 : Int32) : Ev T_X5_addWord 3 [some (mR (some t)), some (mI x1), some (mI x2)] [] (pt X t Q, J) = (if x2 < 0 then some (none, (pt X t Q, J)) else (if (Q 0 1) < 0 then Ev T_X5_addWord 3 [some (mR (some t)), some (mI x1), some (mI (x2 + (-8)))] [] (pt X t Q, J) else (if (400 : Int32) ≤ (Q 0 1) then Ev T_X5_addWord 3 [some (mR (some t)), some (mI x1), some (mI (x2 + (-8)))] [] (pt X t Q, J) else Ev T_X5_addWord 3 [some (mR (some t)), some (mI x1), some (mI (x2 + (-8)))] [] (pt X t (uv (uv Q 1 (ix (Q 0 1)) (((Int32.toUInt32 x1 >>> (Int32.toUInt32 x2 &&& Int32.toUInt32 31)).toInt32) &&& 255)) 0 1 ((Q 0 1) + 1)), J)))) := by
  generalize hR : (if x2 < 0 then some (none, (pt X t Q, J)) else (if (Q 0 1) < 0 then Ev T_X5_addWord 3 [some (mR (some t)), some (mI x1), some (mI (x2 + (-8)))] [] (pt X t Q, J) else (if (400 : Int32) ≤ (Q 0 1) then Ev T_X5_addWord 3 [some (mR (some t)), some (mI x1), some (mI (x2 + (-8)))] [] (pt X t Q, J) else Ev T_X5_addWord 3 [some (mR (some t)), some (mI x1), some (mI (x2 + (-8)))] [] (pt X t (uv (uv Q 1 (ix (Q 0 1)) (((Int32.toUInt32 x1 >>> (Int32.toUInt32 x2 &&& Int32.toUInt32 31)).toInt32) &&& 255)) 0 1 ((Q 0 1) + 1)), J)))) = R
  rw [E_X5_addWord_3]
  by_cases h1 : x2 < 0
  · rewrite [if_pos h1]; simp only [if_pos h1] at hR
    exact hR
  · rewrite [if_neg h1]; simp only [if_neg h1] at hR
    try rewrite [fI_ok 1 hT.k]
    try rewrite [Option.bind_some]
    try rewrite [p2_0]
    by_cases h2 : (Q 0 1) < 0
    · rewrite [if_pos h2]; simp only [if_pos h2] at hR
      exact hR
    · rewrite [if_neg h2]; simp only [if_neg h2] at hR
      try rewrite [fI_ok 1 hT.k]
      try rewrite [Option.bind_some]
      try rewrite [p2_0]
      by_cases h3 : (400 : Int32) ≤ (Q 0 1)
      · rewrite [if_pos h3]; simp only [if_pos h3] at hR
        exact hR
      · rewrite [if_neg h3]; simp only [if_neg h3] at hR
        try rewrite [fR_ok 0 hT.k]
        try rewrite [Option.bind_some]
        try rewrite [hT.r1]
        try rewrite [fI_ok 1 hT.k]
        try rewrite [Option.bind_some]
        try rewrite [p2_0]
        try simp only [Option.bind_some]
        try rewrite [st_ok _ _ hT.s1 (inb_of rfl h2 h3)]
        try rewrite [Option.bind_some]
        try rewrite [u2_1]
        try rewrite [fI_ok 1 hT.k]
        try rewrite [Option.bind_some]
        try rewrite [p2_0]
        try rewrite [uv_k _ _ _ _ _ (by decide)]
        try rewrite [wI_ok 1 _ hT.k]
        try rewrite [Option.bind_some]
        try rewrite [u2_0]
        exact hR
def q_X5_cut (Q : RouV) (x1 : Int32) : Int32 := (if x1 < 0 then 0 else (if x1 ≤ (Q 0 1) then 1 else 0))
def gQ_X5_cut (Q : RouV) (x1 : Int32) : RouV := (if x1 < 0 then Q else (if x1 ≤ (Q 0 1) then uv Q 0 1 x1 else Q))
theorem s_X5_cut {J : MJ} {t : Nat} (hT : TapL J t) (X : MI) (Q : RouV) (x1 : Int32) : M_X5_cut [mR (some t), mI x1] (pt X t Q, J) = some (some (mI (q_X5_cut Q x1)), (pt X t (gQ_X5_cut Q x1), J)) := by
  generalize hR : some (some (mI (q_X5_cut Q x1)), (pt X t (gQ_X5_cut Q x1), J)) = R
  rw [E_X5_cut]
  unfold q_X5_cut gQ_X5_cut at hR
  by_cases h1 : x1 < 0
  · rewrite [if_pos h1]; simp only [if_pos h1] at hR
    first | exact hR | (simp only [if_pos (show (0 : Int32) = 0 ∨ (0 : Int32) = 1 by decide), if_pos (show (1 : Int32) = 0 ∨ (1 : Int32) = 1 by decide)]; exact hR) | (simp; exact hR)
  · rewrite [if_neg h1]; simp only [if_neg h1] at hR
    try rewrite [fI_ok 1 hT.k]
    try rewrite [Option.bind_some]
    try rewrite [p2_0]
    by_cases h2 : x1 ≤ (Q 0 1)
    · rewrite [if_pos h2]; simp only [if_pos h2] at hR
      try rewrite [wI_ok 1 _ hT.k]
      try rewrite [Option.bind_some]
      try rewrite [u2_0]
      first | exact hR | (simp only [if_pos (show (0 : Int32) = 0 ∨ (0 : Int32) = 1 by decide), if_pos (show (1 : Int32) = 0 ∨ (1 : Int32) = 1 by decide)]; exact hR) | (simp; exact hR)
    · rewrite [if_neg h2]; simp only [if_neg h2] at hR
      first | exact hR | (simp only [if_pos (show (0 : Int32) = 0 ∨ (0 : Int32) = 1 by decide), if_pos (show (1 : Int32) = 0 ∨ (1 : Int32) = 1 by decide)]; exact hR) | (simp; exact hR)
def gQ_X5_clear (Q : RouV) : RouV := uv Q 0 1 0
theorem s_X5_clear {J : MJ} {t : Nat} (hT : TapL J t) (X : MI) (Q : RouV) : M_X5_clear [mR (some t)] (pt X t Q, J) = some (none, (pt X t (gQ_X5_clear Q), J)) := by
  generalize hR : some (none, (pt X t (gQ_X5_clear Q), J)) = R
  rw [E_X5_clear]
  unfold gQ_X5_clear at hR
  try rewrite [wI_ok 1 _ hT.k]
  try rewrite [Option.bind_some]
  try rewrite [u2_0]
  exact hR
end
section
/-! Loops over nodes; the tape's words. -/
def evN (U : NodV) : Nat := min (ix (U 0 5)) 60
theorem le_nI {x : Int32} {k : Nat} (hk : k < 2 ^ 31) : x ≤ nI k ↔ ix x ≤ k := by
  rw [Int32.le_iff_toInt_le, nI_toInt hk]
  show x.toInt ≤ _ ↔ x.toInt.toNat ≤ k
  omega
theorem nI_lt_iff {x : Int32} {k : Nat} (hk : k < 2 ^ 31) : nI k < x ↔ k < ix x := by
  rw [Int32.lt_iff_toInt_lt, nI_toInt hk]
  show _ < x.toInt ↔ k < x.toInt.toNat
  omega
theorem evN_le (U : NodV) : evN U ≤ 60 := Nat.min_le_right _ _
theorem evN_stop {U : NodV} {k : Nat} (hk : k ≤ 60) : (U 0 5 ≤ nI k ∨ (60 : Int32) ≤ nI k) ↔ evN U ≤ k := by
  rw [le_nI (by omega), le_nI (by omega)]
  show _ ∨ 60 ≤ k ↔ min _ _ ≤ k
  omega
def q_X2_find (U : NodV) (x1 x2 : Int32) : Int32 := oI (fst? (fun k => decide (¬ U 4 k = 0 ∧ U 2 k = x1 ∧ U 3 k = x2)) 0 (evN U))
theorem s_X2_find {J : MJ} {n : Nat} (hN : NodL J n) (X : MI) (U : NodV) (x1 x2 : Int32) : M_X2_find [mR (some n), mI x1, mI x2] (pt X n U, J) = some (some (mI (q_X2_find U x1 x2)), (pt X n U, J)) := by
  rw [P_X2_find hN]
  have hle := evN_le U
  have step := loop_find (fun k => Ev T_X2_find 2 [some (mR (some n)), some (mI x1), some (mI x2), some (mI (nI k))] [] (pt X n U, J)) (fun k => decide (¬ U 4 k = 0 ∧ U 2 k = x1 ∧ U 3 k = x2)) (fun k => some (some (mI (nI k)), (pt X n U, J))) (evN U) (fun k hk => by
    try dsimp only
    have hs : ¬ (U 0 5 ≤ nI k ∨ (60 : Int32) ≤ nI k) := by rw [evN_stop (by omega)]; omega
    rw [P_X2_find_2 hN _ _ _ _ _ (nI_pos (by omega)), if_neg (fun h => hs (Or.inl h)), if_neg (fun h => hs (Or.inr h)), ix_nI (by omega), nI_1]
    by_cases h1 : U 4 k = 0
    · simp [h1]
    · by_cases h2 : U 2 k = x1
      · by_cases h3 : U 3 k = x2
        · simp [h1, h2, h3]
        · simp [h1, h2, h3]
      · simp [h1, h2]) (evN U) 0 (by omega)
  have h0 : (nI 0) = 0 := rfl
  rw [h0] at step
  rw [step]
  unfold q_X2_find
  have hend : Ev T_X2_find 2 [some (mR (some n)), some (mI x1), some (mI x2), some (mI (nI (evN U)))] [] (pt X n U, J) = some (some (mI (-1)), (pt X n U, J)) := by
    rw [P_X2_find_2 hN _ _ _ _ _ (nI_pos (by omega))]
    rcases (evN_stop (U := U) hle).mpr (Nat.le_refl _) with h | h
    · rw [if_pos h]
    · rw [if_pos h]; split <;> rfl
  cases fst? (fun k => decide (¬ U 4 k = 0 ∧ U 2 k = x1 ∧ U 3 k = x2)) 0 (evN U) with
  | none => exact hend
  | some j => rfl
def q_X2_howManyIn (U : NodV) (x1 : Int32) : Int32 := nI (cnt (fun k => decide (¬ U 4 k = 0 ∧ U 2 k = x1)) 0 (evN U))
theorem s_X2_howManyIn {J : MJ} {n : Nat} (hN : NodL J n) (X : MI) (U : NodV) (x1 : Int32) : M_X2_howManyIn [mR (some n), mI x1] (pt X n U, J) = some (some (mI (q_X2_howManyIn U x1)), (pt X n U, J)) := by
  rw [P_X2_howManyIn hN]
  have hle := evN_le U
  have step := loop_cnt (fun k c => Ev T_X2_howManyIn 4 [some (mR (some n)), some (mI x1), some (mI (nI c)), some (mI (nI k))] [] (pt X n U, J)) (fun k => decide (¬ U 4 k = 0 ∧ U 2 k = x1)) (evN U) (fun k c hk => by
    try dsimp only
    have hs : ¬ (U 0 5 ≤ nI k ∨ (60 : Int32) ≤ nI k) := by rw [evN_stop (by omega)]; omega
    rw [P_X2_howManyIn_4 hN _ _ _ _ _ (nI_pos (by omega)), if_neg (fun h => hs (Or.inl h)), if_neg (fun h => hs (Or.inr h)), ix_nI (by omega), nI_1, nI_1]
    by_cases h1 : U 4 k = 0
    · simp [h1]
    · by_cases h2 : U 2 k = x1
      · simp [h1, h2]
      · simp [h1, h2]) (evN U) 0 0 (by omega)
  have h0 : (nI 0) = 0 := rfl
  rw [h0] at step
  rw [step, P_X2_howManyIn_4 hN _ _ _ _ _ (nI_pos (by omega)), Nat.zero_add]
  unfold q_X2_howManyIn
  rcases (evN_stop (U := U) hle).mpr (Nat.le_refl _) with h | h
  · rw [if_pos h]
  · rw [if_pos h]; split <;> rfl
def q_X2_howMany (U : NodV) : Int32 := nI (cnt (fun k => decide (¬ U 4 k = 0)) 0 (evN U))
theorem s_X2_howMany {J : MJ} {n : Nat} (hN : NodL J n) (X : MI) (U : NodV) : M_X2_howMany [mR (some n)] (pt X n U, J) = some (some (mI (q_X2_howMany U)), (pt X n U, J)) := by
  rw [P_X2_howMany hN]
  have hle := evN_le U
  have step := loop_cnt (fun k c => Ev T_X2_howMany 4 [some (mR (some n)), some (mI (nI c)), some (mI (nI k))] [] (pt X n U, J)) (fun k => decide (¬ U 4 k = 0)) (evN U) (fun k c hk => by
    try dsimp only
    have hs : ¬ (U 0 5 ≤ nI k ∨ (60 : Int32) ≤ nI k) := by rw [evN_stop (by omega)]; omega
    rw [P_X2_howMany_4 hN _ _ _ _ (nI_pos (by omega)), if_neg (fun h => hs (Or.inl h)), if_neg (fun h => hs (Or.inr h)), ix_nI (by omega), nI_1, nI_1]
    by_cases h1 : U 4 k = 0
    · simp [h1]
    · simp [h1]) (evN U) 0 0 (by omega)
  have h0 : (nI 0) = 0 := rfl
  rw [h0] at step
  rw [step, P_X2_howMany_4 hN _ _ _ _ (nI_pos (by omega)), Nat.zero_add]
  unfold q_X2_howMany
  rcases (evN_stop (U := U) hle).mpr (Nat.le_refl _) with h | h
  · rw [if_pos h]
  · rw [if_pos h]; split <;> rfl
/-- Arrays.fill -/
theorem fill_s {I : MI} {J : MJ} {a n : Nat} (h : jS J a = (11, n)) (hn : n < 2 ^ 31) (v : Int32) : M_J7_fill_53178 [mR (some a), mI v] (I, J) = some (none, (fun x y => if x = a ∧ y < n then v else I x y, J)) := by
  have key : ∀ (m k : Nat), k + m = n → Ev T_J7_fill_53178 5 [some (mR (some a)), some (mI v), some (mI (nI k)), some (mI (nI n))] [] (fun x y => if x = a ∧ y < k then v else I x y, J) = some (none, (fun x y => if x = a ∧ y < n then v else I x y, J)) := by
    intro m
    induction m with
    | zero =>
      intro k hk
      have hk : k = n := by omega
      subst hk
      rw [E_J7_fill_53178_5, if_pos (Int32.le_refl _)]
    | succ m ih =>
      intro k hk
      rw [E_J7_fill_53178_5, if_neg (nI_ge (by omega) hn), st_ok _ _ h (inb_nI (by omega) hn), Option.bind_some, nI_1, nI_clamp (by omega)]
      have e : up2 (fun x y => if x = a ∧ y < k then v else I x y) a k v = fun x y => if x = a ∧ y < k + 1 then v else I x y := by
        funext x y
        unfold up2
        by_cases hx : x = a
        · by_cases hy : y = k
          · simp [hx, hy]
          · by_cases hz : y < k
            · simp [hx, hy, hz, Nat.lt_succ_of_lt hz]
            · simp [hx, hy, hz, show ¬ y < k + 1 by omega]
        · simp [hx]
      rw [e]
      exact ih (k + 1) (by omega)
  rw [E_J7_fill_53178, aln_ok h (by decide), Option.bind_some]
  have := key n 0 (by omega)
  have e : (fun x y => if x = a ∧ y < 0 then v else I x y) = I := by
    funext x y
    simp
  rw [e] at this
  exact this
end
section
/-! Memory: closed forms, loops that find or count. Written by gen/run2.py. -/
def q_X2_tell (U : NodV) (x1 : Int32) (x2 : Int32) : Int32 := (if (q_X2_exists U x1) = 0 then (-1) else (if x2 = 0 then U 1 (ix x1) else (if x2 = 1 then (if (U 4 (ix x1)) = 2 then 1 else 0) else (if x2 = 2 then U 2 (ix x1) else (if x2 = 3 then q_X2_howManyIn U x1 else (-1))))))
theorem s_X2_tell {J : MJ} {n : Nat} (hN : NodL J n) (X : MI) (U : NodV) (x1 : Int32) (x2 : Int32) : M_X2_tell [mR (some n), mI x1, mI x2] (pt X n U, J) = some (some (mI (q_X2_tell U x1 x2)), (pt X n U, J)) := by
  generalize hR : some (some (mI (q_X2_tell U x1 x2)), (pt X n U, J)) = R
  rw [E_X2_tell]
  unfold q_X2_tell at hR
  try simp only [Option.bind_some]
  rewrite [if_pos (show kd (pt X n U, J) n = 2 from hN.k)]
  rewrite [s_X2_exists hN]
  simp only [Option.bind_some, asI_I]
  by_cases h1 : (q_X2_exists U x1) = 0
  · rewrite [if_pos h1]; simp only [if_pos h1] at hR
    exact hR
  · rewrite [if_neg h1]; simp only [if_neg h1] at hR
    by_cases h2 : x2 = 0
    · rewrite [if_pos h2]; simp only [if_pos h2] at hR
      try rewrite [fR_ok 0 hN.k]
      try rewrite [Option.bind_some]
      try rewrite [hN.r1]
      try simp only [Option.bind_some]
      try rewrite [ld_ok _ hN.s1 (b_X2_exists_0 h1)]
      try rewrite [Option.bind_some]
      try rewrite [p6_1]
      exact hR
    · rewrite [if_neg h2]; simp only [if_neg h2] at hR
      by_cases h3 : x2 = 1
      · rewrite [if_pos h3]; simp only [if_pos h3] at hR
        try rewrite [fR_ok 3 hN.k]
        try rewrite [Option.bind_some]
        try rewrite [hN.r4]
        try simp only [Option.bind_some]
        try rewrite [ld_ok _ hN.s4 (b_X2_exists_0 h1)]
        try rewrite [Option.bind_some]
        try rewrite [p6_4]
        by_cases h4 : (U 4 (ix x1)) = 2
        · rewrite [if_pos h4]; simp only [if_pos h4] at hR
          exact hR
        · rewrite [if_neg h4]; simp only [if_neg h4] at hR
          exact hR
      · rewrite [if_neg h3]; simp only [if_neg h3] at hR
        by_cases h5 : x2 = 2
        · rewrite [if_pos h5]; simp only [if_pos h5] at hR
          try rewrite [fR_ok 1 hN.k]
          try rewrite [Option.bind_some]
          try rewrite [hN.r2]
          try simp only [Option.bind_some]
          try rewrite [ld_ok _ hN.s2 (b_X2_exists_0 h1)]
          try rewrite [Option.bind_some]
          try rewrite [p6_2]
          exact hR
        · rewrite [if_neg h5]; simp only [if_neg h5] at hR
          by_cases h6 : x2 = 3
          · rewrite [if_pos h6]; simp only [if_pos h6] at hR
            try simp only [Option.bind_some]
            rewrite [if_pos (show kd (pt X n U, J) n = 2 from hN.k)]
            rewrite [s_X2_howManyIn hN]
            simp only [Option.bind_some, asI_I]
            exact hR
          · rewrite [if_neg h6]; simp only [if_neg h6] at hR
            exact hR
theorem P_X1_leastUnused {J : MJ} {m n : Nat} (hM : MemL J m n) (X : MI) (V : MemV) : M_X1_leastUnused [mR (some m)] (pt X m V, J) = Ev T_X1_leastUnused 2 [some (mR (some m)), some (mI 0)] [] (pt X m V, J) := by
  generalize hR : Ev T_X1_leastUnused 2 [some (mR (some m)), some (mI 0)] [] (pt X m V, J) = R
  rw [E_X1_leastUnused]
  exact hR
theorem P_X1_leastUnused_2 {J : MJ} {m n : Nat} (hM : MemL J m n) (X : MI) (V : MemV) (x1 : Int32) (h_x1 : ¬ x1 < 0) : Ev T_X1_leastUnused 2 [some (mR (some m)), some (mI x1)] [] (pt X m V, J) = (if (64 : Int32) ≤ x1 then some (some (mI ((-1))), (pt X m V, J)) else (if (V 1 (ix x1)) = 0 then some (some (mI x1), (pt X m V, J)) else Ev T_X1_leastUnused 2 [some (mR (some m)), some (mI (x1 + 1))] [] (pt X m V, J))) := by
  generalize hR : (if (64 : Int32) ≤ x1 then some (some (mI ((-1))), (pt X m V, J)) else (if (V 1 (ix x1)) = 0 then some (some (mI x1), (pt X m V, J)) else Ev T_X1_leastUnused 2 [some (mR (some m)), some (mI (x1 + 1))] [] (pt X m V, J))) = R
  rw [E_X1_leastUnused_2]
  by_cases h1 : (64 : Int32) ≤ x1
  · rewrite [if_pos h1]; simp only [if_pos h1] at hR
    exact hR
  · rewrite [if_neg h1]; simp only [if_neg h1] at hR
    try rewrite [fR_ok 1 hM.k]
    try rewrite [Option.bind_some]
    try rewrite [hM.r1]
    try simp only [Option.bind_some]
    try rewrite [ld_ok _ hM.s1 (inb_of rfl h_x1 h1)]
    try rewrite [Option.bind_some]
    try rewrite [p12_1]
    by_cases h2 : (V 1 (ix x1)) = 0
    · rewrite [if_pos h2]; simp only [if_pos h2] at hR
      exact hR
    · rewrite [if_neg h2]; simp only [if_neg h2] at hR
      exact hR
def f_X1_leastUnused (V : MemV)  : Option Nat := fst? (fun k => (if (V 1 k) = 0 then true else false)) 0 64
def ql_X1_leastUnused (V : MemV)  : Int32 := oI (f_X1_leastUnused V)
theorem l_X1_leastUnused {J : MJ} {m n : Nat} (hM : MemL J m n) (X : MI) (V : MemV)  : Ev T_X1_leastUnused 2 [some (mR (some m)), some (mI 0)] [] (pt X m V, J) = some (some (mI (ql_X1_leastUnused V)), (pt X m V, J)) := by
  have step := loop_find (fun k => Ev T_X1_leastUnused 2 [some (mR (some m)), some (mI (nI k))] [] (pt X m V, J)) (fun k => (if (V 1 k) = 0 then true else false)) (fun k => some (some (mI ((nI k))), (pt X m V, J))) 64 (fun k hk => by
    try dsimp only
    rw [P_X1_leastUnused_2 hM _ _ _ (nI_pos (by omega)), if_neg (show ¬ (64 : Int32) ≤ nI k from nI_ge hk (by decide))]
    try rw [ix_nI (by omega)]
    rw [nI_1]
    by_cases k1 : (V 1 k) = 0
    ·
      simp [k1, nI_1]
    ·
      simp [k1, nI_1]) 64 0 (by omega)
  have hend : Ev T_X1_leastUnused 2 [some (mR (some m)), some (mI (nI 64))] [] (pt X m V, J) = some (some (mI ((-1))), (pt X m V, J)) := by
    rw [P_X1_leastUnused_2 hM _ _ _ (nI_pos (by omega)), if_pos (show (64 : Int32) ≤ nI 64 from Int32.le_refl _)]
  have h0 : (nI 0) = 0 := rfl
  try dsimp only at step
  rw [h0] at step
  rw [step]
  unfold ql_X1_leastUnused f_X1_leastUnused
  cases fst? (fun k => (if (V 1 k) = 0 then true else false)) 0 64 with
  | none => exact hend
  | some j => rfl
def q_X1_leastUnused (V : MemV)  : Int32 := ql_X1_leastUnused V
theorem s_X1_leastUnused {J : MJ} {m n : Nat} (hM : MemL J m n) (X : MI) (V : MemV)  : M_X1_leastUnused [mR (some m)] (pt X m V, J) = some (some (mI (q_X1_leastUnused V)), (pt X m V, J)) := by
  rw [P_X1_leastUnused hM]
  unfold q_X1_leastUnused
  exact l_X1_leastUnused hM _ _
def gV_X1_hold (V : MemV) (x1 : Int32) : MemV := (if x1 < 0 then V else (if (64 : Int32) ≤ x1 then V else uv V 5 (ix x1) ((V 5 (ix x1)) + 1)))
theorem s_X1_hold {J : MJ} {m n : Nat} (hM : MemL J m n) (X : MI) (V : MemV) (x1 : Int32) : M_X1_hold [mR (some m), mI x1] (pt X m V, J) = some (none, (pt X m (gV_X1_hold V x1), J)) := by
  generalize hR : some (none, (pt X m (gV_X1_hold V x1), J)) = R
  rw [E_X1_hold]
  unfold gV_X1_hold at hR
  by_cases h1 : x1 < 0
  · rewrite [if_pos h1]; simp only [if_pos h1] at hR
    exact hR
  · rewrite [if_neg h1]; simp only [if_neg h1] at hR
    by_cases h2 : (64 : Int32) ≤ x1
    · rewrite [if_pos h2]; simp only [if_pos h2] at hR
      exact hR
    · rewrite [if_neg h2]; simp only [if_neg h2] at hR
      try rewrite [fR_ok 5 hM.k]
      try rewrite [Option.bind_some]
      try rewrite [hM.r5]
      try simp only [Option.bind_some]
      try rewrite [ld_ok _ hM.s5 (inb_of rfl h1 h2)]
      try rewrite [Option.bind_some]
      try rewrite [p12_5]
      try simp only [Option.bind_some]
      try rewrite [st_ok _ _ hM.s5 (inb_of rfl h1 h2)]
      try rewrite [Option.bind_some]
      try rewrite [u12_5]
      exact hR
def gV_X1_comeTo (V : MemV) (x1 : Int32) : MemV := (if x1 < 0 then V else (if x1 < 64 then (if (V 0 16) < 0 then uv (uv V 7 (ix x1) (V 0 12)) 0 12 ((V 0 12) + 1) else (if (2 : Int32) ≤ (V 0 16) then uv (uv V 7 (ix x1) (V 0 12)) 0 12 ((V 0 12) + 1) else uv (uv (uv (uv V 7 (ix x1) (V 0 12)) 0 12 ((V 0 12) + 1)) 11 (ix (V 0 16)) x1) 0 16 ((V 0 16) + 1))) else V))
theorem s_X1_comeTo {J : MJ} {m n : Nat} (hM : MemL J m n) (X : MI) (V : MemV) (x1 : Int32) : M_X1_comeTo [mR (some m), mI x1] (pt X m V, J) = some (none, (pt X m (gV_X1_comeTo V x1), J)) := by
  generalize hR : some (none, (pt X m (gV_X1_comeTo V x1), J)) = R
  rw [E_X1_comeTo]
  unfold gV_X1_comeTo at hR
  by_cases h1 : x1 < 0
  · rewrite [if_pos h1]; simp only [if_pos h1] at hR
    exact hR
  · rewrite [if_neg h1]; simp only [if_neg h1] at hR
    by_cases h2 : x1 < 64
    · rewrite [if_pos h2]; simp only [if_pos h2] at hR
      try rewrite [fR_ok 7 hM.k]
      try rewrite [Option.bind_some]
      try rewrite [hM.r7]
      try rewrite [fI_ok 12 hM.k]
      try rewrite [Option.bind_some]
      try rewrite [p12_0]
      try simp only [Option.bind_some]
      try rewrite [st_ok _ _ hM.s7 (inb_of rfl h1 (Int32.not_le.mpr h2))]
      try rewrite [Option.bind_some]
      try rewrite [u12_7]
      try rewrite [fI_ok 12 hM.k]
      try rewrite [Option.bind_some]
      try rewrite [p12_0]
      try rewrite [uv_k _ _ _ _ _ (by decide)]
      try rewrite [wI_ok 12 _ hM.k]
      try rewrite [Option.bind_some]
      try rewrite [u12_0]
      try rewrite [fI_ok 16 hM.k]
      try rewrite [Option.bind_some]
      try rewrite [p12_0]
      try rewrite [uv_n _ _ _ _ _ _ (by decide)]
      try rewrite [uv_k _ _ _ _ _ (by decide)]
      by_cases h3 : (V 0 16) < 0
      · rewrite [if_pos h3]; simp only [if_pos h3] at hR
        exact hR
      · rewrite [if_neg h3]; simp only [if_neg h3] at hR
        try rewrite [fI_ok 16 hM.k]
        try rewrite [Option.bind_some]
        try rewrite [p12_0]
        try rewrite [uv_n _ _ _ _ _ _ (by decide)]
        try rewrite [uv_k _ _ _ _ _ (by decide)]
        try rewrite [fR_ok 15 hM.k]
        try rewrite [Option.bind_some]
        try rewrite [hM.r11]
        try simp only [Option.bind_some]
        try rewrite [aln_ok hM.s11 (by decide)]
        try rewrite [Option.bind_some]
        try rewrite [show nI 2 = 2 from rfl]
        by_cases h4 : (2 : Int32) ≤ (V 0 16)
        · rewrite [if_pos h4]; simp only [if_pos h4] at hR
          exact hR
        · rewrite [if_neg h4]; simp only [if_neg h4] at hR
          try rewrite [fR_ok 15 hM.k]
          try rewrite [Option.bind_some]
          try rewrite [hM.r11]
          try rewrite [fI_ok 16 hM.k]
          try rewrite [Option.bind_some]
          try rewrite [p12_0]
          try rewrite [uv_n _ _ _ _ _ _ (by decide)]
          try rewrite [uv_k _ _ _ _ _ (by decide)]
          try simp only [Option.bind_some]
          try rewrite [st_ok _ _ hM.s11 (inb_of rfl h3 h4)]
          try rewrite [Option.bind_some]
          try rewrite [u12_11]
          try rewrite [fI_ok 16 hM.k]
          try rewrite [Option.bind_some]
          try rewrite [p12_0]
          try rewrite [uv_k _ _ _ _ _ (by decide)]
          try rewrite [uv_n _ _ _ _ _ _ (by decide)]
          try rewrite [uv_k _ _ _ _ _ (by decide)]
          try rewrite [wI_ok 16 _ hM.k]
          try rewrite [Option.bind_some]
          try rewrite [u12_0]
          exact hR
    · rewrite [if_neg h2]; simp only [if_neg h2] at hR
      exact hR
def q_X1_add (V : MemV) (x1 : Int32) (x2 : Int32) (x3 : Int32) : Int32 := (if (q_X1_leastUnused V) < 0 then (-1) else (if (q_X1_leastUnused V) < 64 then q_X1_leastUnused V else (-1)))
def gV_X1_add (V : MemV) (x1 : Int32) (x2 : Int32) (x3 : Int32) : MemV := (if (q_X1_leastUnused V) < 0 then V else (if (q_X1_leastUnused V) < 64 then gV_X1_comeTo (gV_X1_hold (uv (uv (uv (uv (uv (uv (uv V 1 (ix (q_X1_leastUnused V)) 1) 2 (ix (q_X1_leastUnused V)) x1) 3 (ix (q_X1_leastUnused V)) x2) 4 (ix (q_X1_leastUnused V)) x3) 5 (ix (q_X1_leastUnused V)) 0) 6 (ix (q_X1_leastUnused V)) 0) 8 (ix (q_X1_leastUnused V)) (V 0 12)) x1) (q_X1_leastUnused V) else V))
theorem s_X1_add {J : MJ} {m n : Nat} (hM : MemL J m n) (X : MI) (V : MemV) (x1 : Int32) (x2 : Int32) (x3 : Int32) : M_X1_add [mR (some m), mI x1, mI x2, mI x3] (pt X m V, J) = some (some (mI (q_X1_add V x1 x2 x3)), (pt X m (gV_X1_add V x1 x2 x3), J)) := by
  generalize hR : some (some (mI (q_X1_add V x1 x2 x3)), (pt X m (gV_X1_add V x1 x2 x3), J)) = R
  rw [E_X1_add]
  unfold q_X1_add gV_X1_add at hR
  try simp only [Option.bind_some]
  rewrite [if_pos (show kd (pt X m V, J) m = 1 from hM.k)]
  rewrite [s_X1_leastUnused hM]
  simp only [Option.bind_some, asI_I]
  by_cases h1 : (q_X1_leastUnused V) < 0
  · rewrite [if_pos h1]; simp only [if_pos h1] at hR
    exact hR
  · rewrite [if_neg h1]; simp only [if_neg h1] at hR
    by_cases h2 : (q_X1_leastUnused V) < 64
    · rewrite [if_pos h2]; simp only [if_pos h2] at hR
      try rewrite [fR_ok 1 hM.k]
      try rewrite [Option.bind_some]
      try rewrite [hM.r1]
      try simp only [Option.bind_some]
      try rewrite [st_ok _ _ hM.s1 (inb_of rfl h1 (Int32.not_le.mpr h2))]
      try rewrite [Option.bind_some]
      try rewrite [u12_1]
      try rewrite [fR_ok 2 hM.k]
      try rewrite [Option.bind_some]
      try rewrite [hM.r2]
      try simp only [Option.bind_some]
      try rewrite [st_ok _ _ hM.s2 (inb_of rfl h1 (Int32.not_le.mpr h2))]
      try rewrite [Option.bind_some]
      try rewrite [u12_2]
      try rewrite [fR_ok 3 hM.k]
      try rewrite [Option.bind_some]
      try rewrite [hM.r3]
      try simp only [Option.bind_some]
      try rewrite [st_ok _ _ hM.s3 (inb_of rfl h1 (Int32.not_le.mpr h2))]
      try rewrite [Option.bind_some]
      try rewrite [u12_3]
      try rewrite [fR_ok 4 hM.k]
      try rewrite [Option.bind_some]
      try rewrite [hM.r4]
      try simp only [Option.bind_some]
      try rewrite [st_ok _ _ hM.s4 (inb_of rfl h1 (Int32.not_le.mpr h2))]
      try rewrite [Option.bind_some]
      try rewrite [u12_4]
      try rewrite [fR_ok 5 hM.k]
      try rewrite [Option.bind_some]
      try rewrite [hM.r5]
      try simp only [Option.bind_some]
      try rewrite [st_ok _ _ hM.s5 (inb_of rfl h1 (Int32.not_le.mpr h2))]
      try rewrite [Option.bind_some]
      try rewrite [u12_5]
      try rewrite [fR_ok 6 hM.k]
      try rewrite [Option.bind_some]
      try rewrite [hM.r6]
      try simp only [Option.bind_some]
      try rewrite [st_ok _ _ hM.s6 (inb_of rfl h1 (Int32.not_le.mpr h2))]
      try rewrite [Option.bind_some]
      try rewrite [u12_6]
      try rewrite [fR_ok 8 hM.k]
      try rewrite [Option.bind_some]
      try rewrite [hM.r8]
      try rewrite [fI_ok 12 hM.k]
      try rewrite [Option.bind_some]
      try rewrite [p12_0]
      try rewrite [uv_k _ _ _ _ _ (by decide)]
      try rewrite [uv_k _ _ _ _ _ (by decide)]
      try rewrite [uv_k _ _ _ _ _ (by decide)]
      try rewrite [uv_k _ _ _ _ _ (by decide)]
      try rewrite [uv_k _ _ _ _ _ (by decide)]
      try rewrite [uv_k _ _ _ _ _ (by decide)]
      try simp only [Option.bind_some]
      try rewrite [st_ok _ _ hM.s8 (inb_of rfl h1 (Int32.not_le.mpr h2))]
      try rewrite [Option.bind_some]
      try rewrite [u12_8]
      try simp only [Option.bind_some]
      rewrite [if_pos (show kd (pt X m (uv (uv (uv (uv (uv (uv (uv V 1 (ix (q_X1_leastUnused V)) 1) 2 (ix (q_X1_leastUnused V)) x1) 3 (ix (q_X1_leastUnused V)) x2) 4 (ix (q_X1_leastUnused V)) x3) 5 (ix (q_X1_leastUnused V)) 0) 6 (ix (q_X1_leastUnused V)) 0) 8 (ix (q_X1_leastUnused V)) (V 0 12)), J) m = 1 from hM.k)]
      rewrite [s_X1_hold hM]
      simp only [Option.bind_some, asV_n]
      try simp only [Option.bind_some]
      rewrite [if_pos (show kd (pt X m (gV_X1_hold (uv (uv (uv (uv (uv (uv (uv V 1 (ix (q_X1_leastUnused V)) 1) 2 (ix (q_X1_leastUnused V)) x1) 3 (ix (q_X1_leastUnused V)) x2) 4 (ix (q_X1_leastUnused V)) x3) 5 (ix (q_X1_leastUnused V)) 0) 6 (ix (q_X1_leastUnused V)) 0) 8 (ix (q_X1_leastUnused V)) (V 0 12)) x1), J) m = 1 from hM.k)]
      rewrite [s_X1_comeTo hM]
      simp only [Option.bind_some, asV_n]
      exact hR
    · rewrite [if_neg h2]; simp only [if_neg h2] at hR
      exact hR
def gV_X1_startAnew (U : NodV) (V : MemV) : MemV := uv (gV_X1_add (uv (uv (uv (uv (uv (cpv (cpv (cpv V 1 64 (fun _ => 0)) 9 3 (fun _ => (-1))) 10 3 (fun _ => (-1))) 0 11 40) 0 12 0) 0 13 0) 0 14 0) 0 16 0) ((-1)) 0 (q_X2_rootOf U 0)) 9 0 (q_X1_add (uv (uv (uv (uv (uv (cpv (cpv (cpv V 1 64 (fun _ => 0)) 9 3 (fun _ => (-1))) 10 3 (fun _ => (-1))) 0 11 40) 0 12 0) 0 13 0) 0 14 0) 0 16 0) ((-1)) 0 (q_X2_rootOf U 0))
theorem s_X1_startAnew {J : MJ} {n m : Nat} (hN : NodL J n) (hM : MemL J m n) (d_UV : n + 6 ≤ m ∨ m + 12 ≤ n) (X : MI) (U : NodV) (V : MemV) : M_X1_startAnew [mR (some m)] (pt (pt X n U) m V, J) = some (none, (pt (pt X n U) m (gV_X1_startAnew U V), J)) := by
  generalize hR : some (none, (pt (pt X n U) m (gV_X1_startAnew U V), J)) = R
  rw [E_X1_startAnew]
  unfold gV_X1_startAnew at hR
  try rewrite [fR_ok 1 hM.k]
  try rewrite [Option.bind_some]
  try rewrite [hM.r1]
  try simp only [Option.bind_some]
  rw [fill_s hM.s1 (by decide)]
  simp only [Option.bind_some, asV_n]
  rw [c12_1 (f := fun _ => 0)]
  try rewrite [fR_ok 9 hM.k]
  try rewrite [Option.bind_some]
  try rewrite [hM.r9]
  try simp only [Option.bind_some]
  rw [fill_s hM.s9 (by decide)]
  simp only [Option.bind_some, asV_n]
  rw [c12_9 (f := fun _ => (-1))]
  try rewrite [fR_ok 10 hM.k]
  try rewrite [Option.bind_some]
  try rewrite [hM.r10]
  try simp only [Option.bind_some]
  rw [fill_s hM.s10 (by decide)]
  simp only [Option.bind_some, asV_n]
  rw [c12_10 (f := fun _ => (-1))]
  try rewrite [wI_ok 11 _ hM.k]
  try rewrite [Option.bind_some]
  try rewrite [u12_0]
  try rewrite [wI_ok 12 _ hM.k]
  try rewrite [Option.bind_some]
  try rewrite [u12_0]
  try rewrite [wI_ok 13 _ hM.k]
  try rewrite [Option.bind_some]
  try rewrite [u12_0]
  try rewrite [wI_ok 14 _ hM.k]
  try rewrite [Option.bind_some]
  try rewrite [u12_0]
  try rewrite [wI_ok 16 _ hM.k]
  try rewrite [Option.bind_some]
  try rewrite [u12_0]
  try rewrite [fR_ok 9 hM.k]
  try rewrite [Option.bind_some]
  try rewrite [hM.r9]
  try rewrite [fR_ok 0 hM.k]
  try rewrite [Option.bind_some]
  try rewrite [hM.r0]
  try simp only [Option.bind_some]
  rewrite [if_pos (show kd (pt (pt X n U) m (uv (uv (uv (uv (uv (cpv (cpv (cpv V 1 64 (fun _ => 0)) 9 3 (fun _ => (-1))) 10 3 (fun _ => (-1))) 0 11 40) 0 12 0) 0 13 0) 0 14 0) 0 16 0), J) n = 2 from hN.k)]
  rw [pt_comm X U (uv (uv (uv (uv (uv (cpv (cpv (cpv V 1 64 (fun _ => 0)) 9 3 (fun _ => (-1))) 10 3 (fun _ => (-1))) 0 11 40) 0 12 0) 0 13 0) 0 14 0) 0 16 0) d_UV]
  rw [s_X2_rootOf hN]
  rw [pt_comm X (uv (uv (uv (uv (uv (cpv (cpv (cpv V 1 64 (fun _ => 0)) 9 3 (fun _ => (-1))) 10 3 (fun _ => (-1))) 0 11 40) 0 12 0) 0 13 0) 0 14 0) 0 16 0) U (Or.symm d_UV)]
  simp only [Option.bind_some, asI_I]
  try simp only [Option.bind_some]
  rewrite [if_pos (show kd (pt (pt X n U) m (uv (uv (uv (uv (uv (cpv (cpv (cpv V 1 64 (fun _ => 0)) 9 3 (fun _ => (-1))) 10 3 (fun _ => (-1))) 0 11 40) 0 12 0) 0 13 0) 0 14 0) 0 16 0), J) m = 1 from hM.k)]
  rewrite [s_X1_add hM]
  simp only [Option.bind_some, asI_I]
  try simp only [Option.bind_some]
  try rewrite [st_ok _ _ hM.s9 (by decide)]
  try rewrite [Option.bind_some]
  try rewrite [u12_9]
  try rewrite [show Int32.toNatClampNeg 0 = 0 from rfl]
  exact hR
def q_X1_isEntry (V : MemV) (x1 : Int32) : Int32 := (if x1 < 0 then 0 else (if (64 : Int32) ≤ x1 then 0 else (if (V 1 (ix x1)) = 0 then 0 else 1)))
theorem s_X1_isEntry {J : MJ} {m n : Nat} (hM : MemL J m n) (X : MI) (V : MemV) (x1 : Int32) : M_X1_isEntry [mR (some m), mI x1] (pt X m V, J) = some (some (mI (q_X1_isEntry V x1)), (pt X m V, J)) := by
  generalize hR : some (some (mI (q_X1_isEntry V x1)), (pt X m V, J)) = R
  rw [E_X1_isEntry]
  unfold q_X1_isEntry at hR
  by_cases h1 : x1 < 0
  · rewrite [if_pos h1]; simp only [if_pos h1] at hR
    first | exact hR | (simp only [if_pos (show (0 : Int32) = 0 ∨ (0 : Int32) = 1 by decide), if_pos (show (1 : Int32) = 0 ∨ (1 : Int32) = 1 by decide)]; exact hR) | (simp; exact hR)
  · rewrite [if_neg h1]; simp only [if_neg h1] at hR
    by_cases h2 : (64 : Int32) ≤ x1
    · rewrite [if_pos h2]; simp only [if_pos h2] at hR
      first | exact hR | (simp only [if_pos (show (0 : Int32) = 0 ∨ (0 : Int32) = 1 by decide), if_pos (show (1 : Int32) = 0 ∨ (1 : Int32) = 1 by decide)]; exact hR) | (simp; exact hR)
    · rewrite [if_neg h2]; simp only [if_neg h2] at hR
      try rewrite [fR_ok 1 hM.k]
      try rewrite [Option.bind_some]
      try rewrite [hM.r1]
      try simp only [Option.bind_some]
      try rewrite [ld_ok _ hM.s1 (inb_of rfl h1 h2)]
      try rewrite [Option.bind_some]
      try rewrite [p12_1]
      by_cases h3 : (V 1 (ix x1)) = 0
      · rewrite [if_pos h3]; simp only [if_pos h3] at hR
        first | exact hR | (simp only [if_pos (show (0 : Int32) = 0 ∨ (0 : Int32) = 1 by decide), if_pos (show (1 : Int32) = 0 ∨ (1 : Int32) = 1 by decide)]; exact hR) | (simp; exact hR)
      · rewrite [if_neg h3]; simp only [if_neg h3] at hR
        first | exact hR | (simp only [if_pos (show (0 : Int32) = 0 ∨ (0 : Int32) = 1 by decide), if_pos (show (1 : Int32) = 0 ∨ (1 : Int32) = 1 by decide)]; exact hR) | (simp; exact hR)
theorem b_X1_isEntry_0 {V : MemV} {x1 : Int32} (h : ¬ q_X1_isEntry V x1 = 0) : inb x1 64 := by
  unfold q_X1_isEntry at h
  by_cases k1 : x1 < 0
  · simp only [if_pos k1] at h
    first | exact absurd rfl h | exact absurd trivial h
  · simp only [if_neg k1] at h
    by_cases k2 : (64 : Int32) ≤ x1
    · simp only [if_pos k2] at h
      first | exact absurd rfl h | exact absurd trivial h
    · simp only [if_neg k2] at h
      by_cases k3 : (V 1 (ix x1)) = 0
      · simp only [if_pos k3] at h
        first | exact absurd rfl h | exact absurd trivial h
      · simp only [if_neg k3] at h
        exact (inb_of rfl k1 k2)
def q_X1_isGone (V : MemV) (x1 : Int32) : Int32 := (if (q_X1_isEntry V x1) = 0 then 0 else (if (V 1 (ix x1)) = 2 then 1 else 0))
theorem s_X1_isGone {J : MJ} {m n : Nat} (hM : MemL J m n) (X : MI) (V : MemV) (x1 : Int32) : M_X1_isGone [mR (some m), mI x1] (pt X m V, J) = some (some (mI (q_X1_isGone V x1)), (pt X m V, J)) := by
  generalize hR : some (some (mI (q_X1_isGone V x1)), (pt X m V, J)) = R
  rw [E_X1_isGone]
  unfold q_X1_isGone at hR
  try simp only [Option.bind_some]
  rewrite [if_pos (show kd (pt X m V, J) m = 1 from hM.k)]
  rewrite [s_X1_isEntry hM]
  simp only [Option.bind_some, asI_I]
  by_cases h1 : (q_X1_isEntry V x1) = 0
  · rewrite [if_pos h1]; simp only [if_pos h1] at hR
    first | exact hR | (simp only [if_pos (show (0 : Int32) = 0 ∨ (0 : Int32) = 1 by decide), if_pos (show (1 : Int32) = 0 ∨ (1 : Int32) = 1 by decide)]; exact hR) | (simp; exact hR)
  · rewrite [if_neg h1]; simp only [if_neg h1] at hR
    try rewrite [fR_ok 1 hM.k]
    try rewrite [Option.bind_some]
    try rewrite [hM.r1]
    try simp only [Option.bind_some]
    try rewrite [ld_ok _ hM.s1 (b_X1_isEntry_0 h1)]
    try rewrite [Option.bind_some]
    try rewrite [p12_1]
    by_cases h2 : (V 1 (ix x1)) = 2
    · rewrite [if_pos h2]; simp only [if_pos h2] at hR
      first | exact hR | (simp only [if_pos (show (0 : Int32) = 0 ∨ (0 : Int32) = 1 by decide), if_pos (show (1 : Int32) = 0 ∨ (1 : Int32) = 1 by decide)]; exact hR) | (simp; exact hR)
    · rewrite [if_neg h2]; simp only [if_neg h2] at hR
      first | exact hR | (simp only [if_pos (show (0 : Int32) = 0 ∨ (0 : Int32) = 1 by decide), if_pos (show (1 : Int32) = 0 ∨ (1 : Int32) = 1 by decide)]; exact hR) | (simp; exact hR)
theorem b_X1_isGone_0 {V : MemV} {x1 : Int32} (h : ¬ q_X1_isGone V x1 = 0) : inb x1 64 := by
  unfold q_X1_isGone at h
  by_cases k1 : (q_X1_isEntry V x1) = 0
  · simp only [if_pos k1] at h
    first | exact absurd rfl h | exact absurd trivial h
  · simp only [if_neg k1] at h
    by_cases k2 : (V 1 (ix x1)) = 2
    · simp only [if_pos k2] at h
      exact (b_X1_isEntry_0 k1)
    · simp only [if_neg k2] at h
      first | exact absurd rfl h | exact absurd trivial h
def q_X1_isAbsence (V : MemV) (x1 : Int32) : Int32 := (if (q_X1_isEntry V x1) = 0 then 0 else (if (V 4 (ix x1)) = ((-1)) then 1 else 0))
theorem s_X1_isAbsence {J : MJ} {m n : Nat} (hM : MemL J m n) (X : MI) (V : MemV) (x1 : Int32) : M_X1_isAbsence [mR (some m), mI x1] (pt X m V, J) = some (some (mI (q_X1_isAbsence V x1)), (pt X m V, J)) := by
  generalize hR : some (some (mI (q_X1_isAbsence V x1)), (pt X m V, J)) = R
  rw [E_X1_isAbsence]
  unfold q_X1_isAbsence at hR
  try simp only [Option.bind_some]
  rewrite [if_pos (show kd (pt X m V, J) m = 1 from hM.k)]
  rewrite [s_X1_isEntry hM]
  simp only [Option.bind_some, asI_I]
  by_cases h1 : (q_X1_isEntry V x1) = 0
  · rewrite [if_pos h1]; simp only [if_pos h1] at hR
    first | exact hR | (simp only [if_pos (show (0 : Int32) = 0 ∨ (0 : Int32) = 1 by decide), if_pos (show (1 : Int32) = 0 ∨ (1 : Int32) = 1 by decide)]; exact hR) | (simp; exact hR)
  · rewrite [if_neg h1]; simp only [if_neg h1] at hR
    try rewrite [fR_ok 4 hM.k]
    try rewrite [Option.bind_some]
    try rewrite [hM.r4]
    try simp only [Option.bind_some]
    try rewrite [ld_ok _ hM.s4 (b_X1_isEntry_0 h1)]
    try rewrite [Option.bind_some]
    try rewrite [p12_4]
    by_cases h2 : (V 4 (ix x1)) = ((-1))
    · rewrite [if_pos h2]; simp only [if_pos h2] at hR
      first | exact hR | (simp only [if_pos (show (0 : Int32) = 0 ∨ (0 : Int32) = 1 by decide), if_pos (show (1 : Int32) = 0 ∨ (1 : Int32) = 1 by decide)]; exact hR) | (simp; exact hR)
    · rewrite [if_neg h2]; simp only [if_neg h2] at hR
      first | exact hR | (simp only [if_pos (show (0 : Int32) = 0 ∨ (0 : Int32) = 1 by decide), if_pos (show (1 : Int32) = 0 ∨ (1 : Int32) = 1 by decide)]; exact hR) | (simp; exact hR)
theorem b_X1_isAbsence_0 {V : MemV} {x1 : Int32} (h : ¬ q_X1_isAbsence V x1 = 0) : inb x1 64 := by
  unfold q_X1_isAbsence at h
  by_cases k1 : (q_X1_isEntry V x1) = 0
  · simp only [if_pos k1] at h
    first | exact absurd rfl h | exact absurd trivial h
  · simp only [if_neg k1] at h
    by_cases k2 : (V 4 (ix x1)) = ((-1))
    · simp only [if_pos k2] at h
      exact (b_X1_isEntry_0 k1)
    · simp only [if_neg k2] at h
      first | exact absurd rfl h | exact absurd trivial h
def q_X1_isFolder (U : NodV) (V : MemV) (x1 : Int32) : Int32 := (if (q_X1_isEntry V x1) = 0 then 0 else (if (q_X2_isFolder U (V 4 (ix x1))) = 0 then 0 else 1))
theorem s_X1_isFolder {J : MJ} {n m : Nat} (hN : NodL J n) (hM : MemL J m n) (d_UV : n + 6 ≤ m ∨ m + 12 ≤ n) (X : MI) (U : NodV) (V : MemV) (x1 : Int32) : M_X1_isFolder [mR (some m), mI x1] (pt (pt X n U) m V, J) = some (some (mI (q_X1_isFolder U V x1)), (pt (pt X n U) m V, J)) := by
  generalize hR : some (some (mI (q_X1_isFolder U V x1)), (pt (pt X n U) m V, J)) = R
  rw [E_X1_isFolder]
  unfold q_X1_isFolder at hR
  try simp only [Option.bind_some]
  rewrite [if_pos (show kd (pt (pt X n U) m V, J) m = 1 from hM.k)]
  rewrite [s_X1_isEntry hM]
  simp only [Option.bind_some, asI_I]
  by_cases h1 : (q_X1_isEntry V x1) = 0
  · rewrite [if_pos h1]; simp only [if_pos h1] at hR
    first | exact hR | (simp only [if_pos (show (0 : Int32) = 0 ∨ (0 : Int32) = 1 by decide), if_pos (show (1 : Int32) = 0 ∨ (1 : Int32) = 1 by decide)]; exact hR) | (simp; exact hR)
  · rewrite [if_neg h1]; simp only [if_neg h1] at hR
    try rewrite [fR_ok 0 hM.k]
    try rewrite [Option.bind_some]
    try rewrite [hM.r0]
    try rewrite [fR_ok 4 hM.k]
    try rewrite [Option.bind_some]
    try rewrite [hM.r4]
    try simp only [Option.bind_some]
    try rewrite [ld_ok _ hM.s4 (b_X1_isEntry_0 h1)]
    try rewrite [Option.bind_some]
    try rewrite [p12_4]
    try simp only [Option.bind_some]
    rewrite [if_pos (show kd (pt (pt X n U) m V, J) n = 2 from hN.k)]
    rw [pt_comm X U V d_UV]
    rw [s_X2_isFolder hN]
    rw [pt_comm X V U (Or.symm d_UV)]
    simp only [Option.bind_some, asI_I]
    by_cases h2 : (q_X2_isFolder U (V 4 (ix x1))) = 0
    · rewrite [if_pos h2]; simp only [if_pos h2] at hR
      first | exact hR | (simp only [if_pos (show (0 : Int32) = 0 ∨ (0 : Int32) = 1 by decide), if_pos (show (1 : Int32) = 0 ∨ (1 : Int32) = 1 by decide)]; exact hR) | (simp; exact hR)
    · rewrite [if_neg h2]; simp only [if_neg h2] at hR
      first | exact hR | (simp only [if_pos (show (0 : Int32) = 0 ∨ (0 : Int32) = 1 by decide), if_pos (show (1 : Int32) = 0 ∨ (1 : Int32) = 1 by decide)]; exact hR) | (simp; exact hR)
theorem b_X1_isFolder_0 {U : NodV} {V : MemV} {x1 : Int32} (h : ¬ q_X1_isFolder U V x1 = 0) : inb x1 64 := by
  unfold q_X1_isFolder at h
  by_cases k1 : (q_X1_isEntry V x1) = 0
  · simp only [if_pos k1] at h
    first | exact absurd rfl h | exact absurd trivial h
  · simp only [if_neg k1] at h
    by_cases k2 : (q_X2_isFolder U (V 4 (ix x1))) = 0
    · simp only [if_pos k2] at h
      first | exact absurd rfl h | exact absurd trivial h
    · simp only [if_neg k2] at h
      exact (b_X1_isEntry_0 k1)
def q_X1_nodeOf (V : MemV) (x1 : Int32) : Int32 := (if (q_X1_isEntry V x1) = 0 then (-1) else V 4 (ix x1))
theorem s_X1_nodeOf {J : MJ} {m n : Nat} (hM : MemL J m n) (X : MI) (V : MemV) (x1 : Int32) : M_X1_nodeOf [mR (some m), mI x1] (pt X m V, J) = some (some (mI (q_X1_nodeOf V x1)), (pt X m V, J)) := by
  generalize hR : some (some (mI (q_X1_nodeOf V x1)), (pt X m V, J)) = R
  rw [E_X1_nodeOf]
  unfold q_X1_nodeOf at hR
  try simp only [Option.bind_some]
  rewrite [if_pos (show kd (pt X m V, J) m = 1 from hM.k)]
  rewrite [s_X1_isEntry hM]
  simp only [Option.bind_some, asI_I]
  by_cases h1 : (q_X1_isEntry V x1) = 0
  · rewrite [if_pos h1]; simp only [if_pos h1] at hR
    exact hR
  · rewrite [if_neg h1]; simp only [if_neg h1] at hR
    try rewrite [fR_ok 4 hM.k]
    try rewrite [Option.bind_some]
    try rewrite [hM.r4]
    try simp only [Option.bind_some]
    try rewrite [ld_ok _ hM.s4 (b_X1_isEntry_0 h1)]
    try rewrite [Option.bind_some]
    try rewrite [p12_4]
    exact hR
def q_X1_nameOf (V : MemV) (x1 : Int32) : Int32 := (if (q_X1_isEntry V x1) = 0 then 0 else V 3 (ix x1))
theorem s_X1_nameOf {J : MJ} {m n : Nat} (hM : MemL J m n) (X : MI) (V : MemV) (x1 : Int32) : M_X1_nameOf [mR (some m), mI x1] (pt X m V, J) = some (some (mI (q_X1_nameOf V x1)), (pt X m V, J)) := by
  generalize hR : some (some (mI (q_X1_nameOf V x1)), (pt X m V, J)) = R
  rw [E_X1_nameOf]
  unfold q_X1_nameOf at hR
  try simp only [Option.bind_some]
  rewrite [if_pos (show kd (pt X m V, J) m = 1 from hM.k)]
  rewrite [s_X1_isEntry hM]
  simp only [Option.bind_some, asI_I]
  by_cases h1 : (q_X1_isEntry V x1) = 0
  · rewrite [if_pos h1]; simp only [if_pos h1] at hR
    exact hR
  · rewrite [if_neg h1]; simp only [if_neg h1] at hR
    try rewrite [fR_ok 3 hM.k]
    try rewrite [Option.bind_some]
    try rewrite [hM.r3]
    try simp only [Option.bind_some]
    try rewrite [ld_ok _ hM.s3 (b_X1_isEntry_0 h1)]
    try rewrite [Option.bind_some]
    try rewrite [p12_3]
    exact hR
theorem b_X1_nameOf_0 {V : MemV} {x1 : Int32} (h : ¬ q_X1_nameOf V x1 = 0) : inb x1 64 := by
  unfold q_X1_nameOf at h
  by_cases k1 : (q_X1_isEntry V x1) = 0
  · simp only [if_pos k1] at h
    first | exact absurd rfl h | exact absurd trivial h
  · simp only [if_neg k1] at h
    exact (b_X1_isEntry_0 k1)
def q_X1_isMounted (V : MemV) (x1 : Int32) : Int32 := (if x1 < 0 then 0 else (if (3 : Int32) ≤ x1 then 0 else (if (V 9 (ix x1)) = ((-1)) then 0 else 1)))
theorem s_X1_isMounted {J : MJ} {m n : Nat} (hM : MemL J m n) (X : MI) (V : MemV) (x1 : Int32) : M_X1_isMounted [mR (some m), mI x1] (pt X m V, J) = some (some (mI (q_X1_isMounted V x1)), (pt X m V, J)) := by
  generalize hR : some (some (mI (q_X1_isMounted V x1)), (pt X m V, J)) = R
  rw [E_X1_isMounted]
  unfold q_X1_isMounted at hR
  by_cases h1 : x1 < 0
  · rewrite [if_pos h1]; simp only [if_pos h1] at hR
    first | exact hR | (simp only [if_pos (show (0 : Int32) = 0 ∨ (0 : Int32) = 1 by decide), if_pos (show (1 : Int32) = 0 ∨ (1 : Int32) = 1 by decide)]; exact hR) | (simp; exact hR)
  · rewrite [if_neg h1]; simp only [if_neg h1] at hR
    by_cases h2 : (3 : Int32) ≤ x1
    · rewrite [if_pos h2]; simp only [if_pos h2] at hR
      first | exact hR | (simp only [if_pos (show (0 : Int32) = 0 ∨ (0 : Int32) = 1 by decide), if_pos (show (1 : Int32) = 0 ∨ (1 : Int32) = 1 by decide)]; exact hR) | (simp; exact hR)
    · rewrite [if_neg h2]; simp only [if_neg h2] at hR
      try rewrite [fR_ok 9 hM.k]
      try rewrite [Option.bind_some]
      try rewrite [hM.r9]
      try simp only [Option.bind_some]
      try rewrite [ld_ok _ hM.s9 (inb_of rfl h1 h2)]
      try rewrite [Option.bind_some]
      try rewrite [p12_9]
      by_cases h3 : (V 9 (ix x1)) = ((-1))
      · rewrite [if_pos h3]; simp only [if_pos h3] at hR
        first | exact hR | (simp only [if_pos (show (0 : Int32) = 0 ∨ (0 : Int32) = 1 by decide), if_pos (show (1 : Int32) = 0 ∨ (1 : Int32) = 1 by decide)]; exact hR) | (simp; exact hR)
      · rewrite [if_neg h3]; simp only [if_neg h3] at hR
        first | exact hR | (simp only [if_pos (show (0 : Int32) = 0 ∨ (0 : Int32) = 1 by decide), if_pos (show (1 : Int32) = 0 ∨ (1 : Int32) = 1 by decide)]; exact hR) | (simp; exact hR)
theorem b_X1_isMounted_0 {V : MemV} {x1 : Int32} (h : ¬ q_X1_isMounted V x1 = 0) : inb x1 3 := by
  unfold q_X1_isMounted at h
  by_cases k1 : x1 < 0
  · simp only [if_pos k1] at h
    first | exact absurd rfl h | exact absurd trivial h
  · simp only [if_neg k1] at h
    by_cases k2 : (3 : Int32) ≤ x1
    · simp only [if_pos k2] at h
      first | exact absurd rfl h | exact absurd trivial h
    · simp only [if_neg k2] at h
      by_cases k3 : (V 9 (ix x1)) = ((-1))
      · simp only [if_pos k3] at h
        first | exact absurd rfl h | exact absurd trivial h
      · simp only [if_neg k3] at h
        exact (inb_of rfl k1 k2)
theorem P_X1_rootVolume {J : MJ} {m n : Nat} (hM : MemL J m n) (X : MI) (V : MemV) (x1 : Int32) : M_X1_rootVolume [mR (some m), mI x1] (pt X m V, J) = Ev T_X1_rootVolume 2 [some (mR (some m)), some (mI x1), some (mI 0)] [] (pt X m V, J) := by
  generalize hR : Ev T_X1_rootVolume 2 [some (mR (some m)), some (mI x1), some (mI 0)] [] (pt X m V, J) = R
  rw [E_X1_rootVolume]
  exact hR
theorem P_X1_rootVolume_2 {J : MJ} {m n : Nat} (hM : MemL J m n) (X : MI) (V : MemV) (x1 : Int32) (x2 : Int32) (h_x2 : ¬ x2 < 0) : Ev T_X1_rootVolume 2 [some (mR (some m)), some (mI x1), some (mI x2)] [] (pt X m V, J) = (if (3 : Int32) ≤ x2 then some (some (mI ((-1))), (pt X m V, J)) else (if x1 = ((-1)) then Ev T_X1_rootVolume 2 [some (mR (some m)), some (mI x1), some (mI (x2 + 1))] [] (pt X m V, J) else (if (V 9 (ix x2)) = x1 then some (some (mI x2), (pt X m V, J)) else Ev T_X1_rootVolume 2 [some (mR (some m)), some (mI x1), some (mI (x2 + 1))] [] (pt X m V, J)))) := by
  generalize hR : (if (3 : Int32) ≤ x2 then some (some (mI ((-1))), (pt X m V, J)) else (if x1 = ((-1)) then Ev T_X1_rootVolume 2 [some (mR (some m)), some (mI x1), some (mI (x2 + 1))] [] (pt X m V, J) else (if (V 9 (ix x2)) = x1 then some (some (mI x2), (pt X m V, J)) else Ev T_X1_rootVolume 2 [some (mR (some m)), some (mI x1), some (mI (x2 + 1))] [] (pt X m V, J)))) = R
  rw [E_X1_rootVolume_2]
  by_cases h1 : (3 : Int32) ≤ x2
  · rewrite [if_pos h1]; simp only [if_pos h1] at hR
    exact hR
  · rewrite [if_neg h1]; simp only [if_neg h1] at hR
    by_cases h2 : x1 = ((-1))
    · rewrite [if_pos h2]; simp only [if_pos h2] at hR
      exact hR
    · rewrite [if_neg h2]; simp only [if_neg h2] at hR
      try rewrite [fR_ok 9 hM.k]
      try rewrite [Option.bind_some]
      try rewrite [hM.r9]
      try simp only [Option.bind_some]
      try rewrite [ld_ok _ hM.s9 (inb_of rfl h_x2 h1)]
      try rewrite [Option.bind_some]
      try rewrite [p12_9]
      by_cases h3 : (V 9 (ix x2)) = x1
      · rewrite [if_pos h3]; simp only [if_pos h3] at hR
        exact hR
      · rewrite [if_neg h3]; simp only [if_neg h3] at hR
        exact hR
def f_X1_rootVolume (V : MemV) (x1 : Int32) : Option Nat := fst? (fun k => (if x1 = ((-1)) then false else (if (V 9 k) = x1 then true else false))) 0 3
def ql_X1_rootVolume (V : MemV) (x1 : Int32) : Int32 := oI (f_X1_rootVolume V x1)
theorem l_X1_rootVolume {J : MJ} {m n : Nat} (hM : MemL J m n) (X : MI) (V : MemV) (x1 : Int32) : Ev T_X1_rootVolume 2 [some (mR (some m)), some (mI x1), some (mI 0)] [] (pt X m V, J) = some (some (mI (ql_X1_rootVolume V x1)), (pt X m V, J)) := by
  have step := loop_find (fun k => Ev T_X1_rootVolume 2 [some (mR (some m)), some (mI x1), some (mI (nI k))] [] (pt X m V, J)) (fun k => (if x1 = ((-1)) then false else (if (V 9 k) = x1 then true else false))) (fun k => some (some (mI ((nI k))), (pt X m V, J))) 3 (fun k hk => by
    try dsimp only
    rw [P_X1_rootVolume_2 hM _ _ _ _ (nI_pos (by omega)), if_neg (show ¬ (3 : Int32) ≤ nI k from nI_ge hk (by decide))]
    try rw [ix_nI (by omega)]
    rw [nI_1]
    by_cases k1 : x1 = ((-1))
    ·
      simp [k1, nI_1]
    ·
      by_cases k2 : (V 9 k) = x1
      ·
        simp [k1, k2, nI_1]
      ·
        simp [k1, k2, nI_1]) 3 0 (by omega)
  have hend : Ev T_X1_rootVolume 2 [some (mR (some m)), some (mI x1), some (mI (nI 3))] [] (pt X m V, J) = some (some (mI ((-1))), (pt X m V, J)) := by
    rw [P_X1_rootVolume_2 hM _ _ _ _ (nI_pos (by omega)), if_pos (show (3 : Int32) ≤ nI 3 from Int32.le_refl _)]
  have h0 : (nI 0) = 0 := rfl
  try dsimp only at step
  rw [h0] at step
  rw [step]
  unfold ql_X1_rootVolume f_X1_rootVolume
  cases fst? (fun k => (if x1 = ((-1)) then false else (if (V 9 k) = x1 then true else false))) 0 3 with
  | none => exact hend
  | some j => rfl
def q_X1_rootVolume (V : MemV) (x1 : Int32) : Int32 := ql_X1_rootVolume V x1
theorem s_X1_rootVolume {J : MJ} {m n : Nat} (hM : MemL J m n) (X : MI) (V : MemV) (x1 : Int32) : M_X1_rootVolume [mR (some m), mI x1] (pt X m V, J) = some (some (mI (q_X1_rootVolume V x1)), (pt X m V, J)) := by
  rw [P_X1_rootVolume hM]
  unfold q_X1_rootVolume
  exact l_X1_rootVolume hM _ _ _
theorem P_X1_coveringVolume {J : MJ} {m n : Nat} (hM : MemL J m n) (X : MI) (V : MemV) (x1 : Int32) : M_X1_coveringVolume [mR (some m), mI x1] (pt X m V, J) = Ev T_X1_coveringVolume 2 [some (mR (some m)), some (mI x1), some (mI 0)] [] (pt X m V, J) := by
  generalize hR : Ev T_X1_coveringVolume 2 [some (mR (some m)), some (mI x1), some (mI 0)] [] (pt X m V, J) = R
  rw [E_X1_coveringVolume]
  exact hR
theorem P_X1_coveringVolume_2 {J : MJ} {m n : Nat} (hM : MemL J m n) (X : MI) (V : MemV) (x1 : Int32) (x2 : Int32) (h_x2 : ¬ x2 < 0) : Ev T_X1_coveringVolume 2 [some (mR (some m)), some (mI x1), some (mI x2)] [] (pt X m V, J) = (if (3 : Int32) ≤ x2 then some (some (mI ((-1))), (pt X m V, J)) else (if x1 = ((-1)) then Ev T_X1_coveringVolume 2 [some (mR (some m)), some (mI x1), some (mI (x2 + 1))] [] (pt X m V, J) else (if (V 10 (ix x2)) = x1 then some (some (mI x2), (pt X m V, J)) else Ev T_X1_coveringVolume 2 [some (mR (some m)), some (mI x1), some (mI (x2 + 1))] [] (pt X m V, J)))) := by
  generalize hR : (if (3 : Int32) ≤ x2 then some (some (mI ((-1))), (pt X m V, J)) else (if x1 = ((-1)) then Ev T_X1_coveringVolume 2 [some (mR (some m)), some (mI x1), some (mI (x2 + 1))] [] (pt X m V, J) else (if (V 10 (ix x2)) = x1 then some (some (mI x2), (pt X m V, J)) else Ev T_X1_coveringVolume 2 [some (mR (some m)), some (mI x1), some (mI (x2 + 1))] [] (pt X m V, J)))) = R
  rw [E_X1_coveringVolume_2]
  by_cases h1 : (3 : Int32) ≤ x2
  · rewrite [if_pos h1]; simp only [if_pos h1] at hR
    exact hR
  · rewrite [if_neg h1]; simp only [if_neg h1] at hR
    by_cases h2 : x1 = ((-1))
    · rewrite [if_pos h2]; simp only [if_pos h2] at hR
      exact hR
    · rewrite [if_neg h2]; simp only [if_neg h2] at hR
      try rewrite [fR_ok 10 hM.k]
      try rewrite [Option.bind_some]
      try rewrite [hM.r10]
      try simp only [Option.bind_some]
      try rewrite [ld_ok _ hM.s10 (inb_of rfl h_x2 h1)]
      try rewrite [Option.bind_some]
      try rewrite [p12_10]
      by_cases h3 : (V 10 (ix x2)) = x1
      · rewrite [if_pos h3]; simp only [if_pos h3] at hR
        exact hR
      · rewrite [if_neg h3]; simp only [if_neg h3] at hR
        exact hR
def f_X1_coveringVolume (V : MemV) (x1 : Int32) : Option Nat := fst? (fun k => (if x1 = ((-1)) then false else (if (V 10 k) = x1 then true else false))) 0 3
def ql_X1_coveringVolume (V : MemV) (x1 : Int32) : Int32 := oI (f_X1_coveringVolume V x1)
theorem l_X1_coveringVolume {J : MJ} {m n : Nat} (hM : MemL J m n) (X : MI) (V : MemV) (x1 : Int32) : Ev T_X1_coveringVolume 2 [some (mR (some m)), some (mI x1), some (mI 0)] [] (pt X m V, J) = some (some (mI (ql_X1_coveringVolume V x1)), (pt X m V, J)) := by
  have step := loop_find (fun k => Ev T_X1_coveringVolume 2 [some (mR (some m)), some (mI x1), some (mI (nI k))] [] (pt X m V, J)) (fun k => (if x1 = ((-1)) then false else (if (V 10 k) = x1 then true else false))) (fun k => some (some (mI ((nI k))), (pt X m V, J))) 3 (fun k hk => by
    try dsimp only
    rw [P_X1_coveringVolume_2 hM _ _ _ _ (nI_pos (by omega)), if_neg (show ¬ (3 : Int32) ≤ nI k from nI_ge hk (by decide))]
    try rw [ix_nI (by omega)]
    rw [nI_1]
    by_cases k1 : x1 = ((-1))
    ·
      simp [k1, nI_1]
    ·
      by_cases k2 : (V 10 k) = x1
      ·
        simp [k1, k2, nI_1]
      ·
        simp [k1, k2, nI_1]) 3 0 (by omega)
  have hend : Ev T_X1_coveringVolume 2 [some (mR (some m)), some (mI x1), some (mI (nI 3))] [] (pt X m V, J) = some (some (mI ((-1))), (pt X m V, J)) := by
    rw [P_X1_coveringVolume_2 hM _ _ _ _ (nI_pos (by omega)), if_pos (show (3 : Int32) ≤ nI 3 from Int32.le_refl _)]
  have h0 : (nI 0) = 0 := rfl
  try dsimp only at step
  rw [h0] at step
  rw [step]
  unfold ql_X1_coveringVolume f_X1_coveringVolume
  cases fst? (fun k => (if x1 = ((-1)) then false else (if (V 10 k) = x1 then true else false))) 0 3 with
  | none => exact hend
  | some j => rfl
def q_X1_coveringVolume (V : MemV) (x1 : Int32) : Int32 := ql_X1_coveringVolume V x1
theorem s_X1_coveringVolume {J : MJ} {m n : Nat} (hM : MemL J m n) (X : MI) (V : MemV) (x1 : Int32) : M_X1_coveringVolume [mR (some m), mI x1] (pt X m V, J) = some (some (mI (q_X1_coveringVolume V x1)), (pt X m V, J)) := by
  rw [P_X1_coveringVolume hM]
  unfold q_X1_coveringVolume
  exact l_X1_coveringVolume hM _ _ _
def q_X1_coveredBy (V : MemV) (x1 : Int32) : Int32 := (if x1 < 0 then (-1) else (if (3 : Int32) ≤ x1 then (-1) else V 10 (ix x1)))
theorem s_X1_coveredBy {J : MJ} {m n : Nat} (hM : MemL J m n) (X : MI) (V : MemV) (x1 : Int32) : M_X1_coveredBy [mR (some m), mI x1] (pt X m V, J) = some (some (mI (q_X1_coveredBy V x1)), (pt X m V, J)) := by
  generalize hR : some (some (mI (q_X1_coveredBy V x1)), (pt X m V, J)) = R
  rw [E_X1_coveredBy]
  unfold q_X1_coveredBy at hR
  by_cases h1 : x1 < 0
  · rewrite [if_pos h1]; simp only [if_pos h1] at hR
    exact hR
  · rewrite [if_neg h1]; simp only [if_neg h1] at hR
    by_cases h2 : (3 : Int32) ≤ x1
    · rewrite [if_pos h2]; simp only [if_pos h2] at hR
      exact hR
    · rewrite [if_neg h2]; simp only [if_neg h2] at hR
      try rewrite [fR_ok 10 hM.k]
      try rewrite [Option.bind_some]
      try rewrite [hM.r10]
      try simp only [Option.bind_some]
      try rewrite [ld_ok _ hM.s10 (inb_of rfl h1 h2)]
      try rewrite [Option.bind_some]
      try rewrite [p12_10]
      exact hR
def q_X1_canChange (V : MemV) (x1 : Int32) : Int32 := (if (q_X1_isEntry V x1) = 0 then 0 else (if (q_X1_rootVolume V x1) = ((-1)) then (if (q_X1_coveringVolume V x1) = ((-1)) then 1 else 0) else 0))
theorem s_X1_canChange {J : MJ} {m n : Nat} (hM : MemL J m n) (X : MI) (V : MemV) (x1 : Int32) : M_X1_canChange [mR (some m), mI x1] (pt X m V, J) = some (some (mI (q_X1_canChange V x1)), (pt X m V, J)) := by
  generalize hR : some (some (mI (q_X1_canChange V x1)), (pt X m V, J)) = R
  rw [E_X1_canChange]
  unfold q_X1_canChange at hR
  try simp only [Option.bind_some]
  rewrite [if_pos (show kd (pt X m V, J) m = 1 from hM.k)]
  rewrite [s_X1_isEntry hM]
  simp only [Option.bind_some, asI_I]
  by_cases h1 : (q_X1_isEntry V x1) = 0
  · rewrite [if_pos h1]; simp only [if_pos h1] at hR
    first | exact hR | (simp only [if_pos (show (0 : Int32) = 0 ∨ (0 : Int32) = 1 by decide), if_pos (show (1 : Int32) = 0 ∨ (1 : Int32) = 1 by decide)]; exact hR) | (simp; exact hR)
  · rewrite [if_neg h1]; simp only [if_neg h1] at hR
    try simp only [Option.bind_some]
    rewrite [if_pos (show kd (pt X m V, J) m = 1 from hM.k)]
    rewrite [s_X1_rootVolume hM]
    simp only [Option.bind_some, asI_I]
    by_cases h2 : (q_X1_rootVolume V x1) = ((-1))
    · rewrite [if_pos h2]; simp only [if_pos h2] at hR
      try simp only [Option.bind_some]
      rewrite [if_pos (show kd (pt X m V, J) m = 1 from hM.k)]
      rewrite [s_X1_coveringVolume hM]
      simp only [Option.bind_some, asI_I]
      by_cases h3 : (q_X1_coveringVolume V x1) = ((-1))
      · rewrite [if_pos h3]; simp only [if_pos h3] at hR
        first | exact hR | (simp only [if_pos (show (0 : Int32) = 0 ∨ (0 : Int32) = 1 by decide), if_pos (show (1 : Int32) = 0 ∨ (1 : Int32) = 1 by decide)]; exact hR) | (simp; exact hR)
      · rewrite [if_neg h3]; simp only [if_neg h3] at hR
        first | exact hR | (simp only [if_pos (show (0 : Int32) = 0 ∨ (0 : Int32) = 1 by decide), if_pos (show (1 : Int32) = 0 ∨ (1 : Int32) = 1 by decide)]; exact hR) | (simp; exact hR)
    · rewrite [if_neg h2]; simp only [if_neg h2] at hR
      first | exact hR | (simp only [if_pos (show (0 : Int32) = 0 ∨ (0 : Int32) = 1 by decide), if_pos (show (1 : Int32) = 0 ∨ (1 : Int32) = 1 by decide)]; exact hR) | (simp; exact hR)
theorem b_X1_canChange_0 {V : MemV} {x1 : Int32} (h : ¬ q_X1_canChange V x1 = 0) : inb x1 64 := by
  unfold q_X1_canChange at h
  by_cases k1 : (q_X1_isEntry V x1) = 0
  · simp only [if_pos k1] at h
    first | exact absurd rfl h | exact absurd trivial h
  · simp only [if_neg k1] at h
    by_cases k2 : (q_X1_rootVolume V x1) = ((-1))
    · simp only [if_pos k2] at h
      by_cases k3 : (q_X1_coveringVolume V x1) = ((-1))
      · simp only [if_pos k3] at h
        exact (b_X1_isEntry_0 k1)
      · simp only [if_neg k3] at h
        first | exact absurd rfl h | exact absurd trivial h
    · simp only [if_neg k2] at h
      first | exact absurd rfl h | exact absurd trivial h
theorem P_X1_find {J : MJ} {m n : Nat} (hM : MemL J m n) (X : MI) (V : MemV) (x1 : Int32) (x2 : Int32) : M_X1_find [mR (some m), mI x1, mI x2] (pt X m V, J) = (if (q_X1_isEntry V x1) = 0 then some (some (mI ((-1))), (pt X m V, J)) else Ev T_X1_find 12 [some (mR (some m)), some (mI x1), some (mI x2), some (mI 0)] [] (pt X m V, J)) := by
  generalize hR : (if (q_X1_isEntry V x1) = 0 then some (some (mI ((-1))), (pt X m V, J)) else Ev T_X1_find 12 [some (mR (some m)), some (mI x1), some (mI x2), some (mI 0)] [] (pt X m V, J)) = R
  rw [E_X1_find]
  try simp only [Option.bind_some]
  rewrite [if_pos (show kd (pt X m V, J) m = 1 from hM.k)]
  rewrite [s_X1_isEntry hM]
  simp only [Option.bind_some, asI_I]
  by_cases h1 : (q_X1_isEntry V x1) = 0
  · rewrite [if_pos h1]; simp only [if_pos h1] at hR
    exact hR
  · rewrite [if_neg h1]; simp only [if_neg h1] at hR
    exact hR
theorem P_X1_find_12 {J : MJ} {m n : Nat} (hM : MemL J m n) (X : MI) (V : MemV) (x1 : Int32) (x2 : Int32) (x3 : Int32) (h_x3 : ¬ x3 < 0) : Ev T_X1_find 12 [some (mR (some m)), some (mI x1), some (mI x2), some (mI x3)] [] (pt X m V, J) = (if (64 : Int32) ≤ x3 then some (some (mI ((-1))), (pt X m V, J)) else (if (V 1 (ix x3)) = 0 then Ev T_X1_find 12 [some (mR (some m)), some (mI x1), some (mI x2), some (mI (x3 + 1))] [] (pt X m V, J) else (if (V 2 (ix x3)) = x1 then (if (V 3 (ix x3)) = x2 then some (some (mI x3), (pt X m V, J)) else Ev T_X1_find 12 [some (mR (some m)), some (mI x1), some (mI x2), some (mI (x3 + 1))] [] (pt X m V, J)) else Ev T_X1_find 12 [some (mR (some m)), some (mI x1), some (mI x2), some (mI (x3 + 1))] [] (pt X m V, J)))) := by
  generalize hR : (if (64 : Int32) ≤ x3 then some (some (mI ((-1))), (pt X m V, J)) else (if (V 1 (ix x3)) = 0 then Ev T_X1_find 12 [some (mR (some m)), some (mI x1), some (mI x2), some (mI (x3 + 1))] [] (pt X m V, J) else (if (V 2 (ix x3)) = x1 then (if (V 3 (ix x3)) = x2 then some (some (mI x3), (pt X m V, J)) else Ev T_X1_find 12 [some (mR (some m)), some (mI x1), some (mI x2), some (mI (x3 + 1))] [] (pt X m V, J)) else Ev T_X1_find 12 [some (mR (some m)), some (mI x1), some (mI x2), some (mI (x3 + 1))] [] (pt X m V, J)))) = R
  rw [E_X1_find_12]
  by_cases h1 : (64 : Int32) ≤ x3
  · rewrite [if_pos h1]; simp only [if_pos h1] at hR
    exact hR
  · rewrite [if_neg h1]; simp only [if_neg h1] at hR
    try rewrite [fR_ok 1 hM.k]
    try rewrite [Option.bind_some]
    try rewrite [hM.r1]
    try simp only [Option.bind_some]
    try rewrite [ld_ok _ hM.s1 (inb_of rfl h_x3 h1)]
    try rewrite [Option.bind_some]
    try rewrite [p12_1]
    by_cases h2 : (V 1 (ix x3)) = 0
    · rewrite [if_pos h2]; simp only [if_pos h2] at hR
      exact hR
    · rewrite [if_neg h2]; simp only [if_neg h2] at hR
      try rewrite [fR_ok 2 hM.k]
      try rewrite [Option.bind_some]
      try rewrite [hM.r2]
      try simp only [Option.bind_some]
      try rewrite [ld_ok _ hM.s2 (inb_of rfl h_x3 h1)]
      try rewrite [Option.bind_some]
      try rewrite [p12_2]
      by_cases h3 : (V 2 (ix x3)) = x1
      · rewrite [if_pos h3]; simp only [if_pos h3] at hR
        try rewrite [fR_ok 3 hM.k]
        try rewrite [Option.bind_some]
        try rewrite [hM.r3]
        try simp only [Option.bind_some]
        try rewrite [ld_ok _ hM.s3 (inb_of rfl h_x3 h1)]
        try rewrite [Option.bind_some]
        try rewrite [p12_3]
        by_cases h4 : (V 3 (ix x3)) = x2
        · rewrite [if_pos h4]; simp only [if_pos h4] at hR
          exact hR
        · rewrite [if_neg h4]; simp only [if_neg h4] at hR
          exact hR
      · rewrite [if_neg h3]; simp only [if_neg h3] at hR
        exact hR
def f_X1_find (V : MemV) (x1 : Int32) (x2 : Int32) : Option Nat := fst? (fun k => (if (V 1 k) = 0 then false else (if (V 2 k) = x1 then (if (V 3 k) = x2 then true else false) else false))) 0 64
def ql_X1_find (V : MemV) (x1 : Int32) (x2 : Int32) : Int32 := oI (f_X1_find V x1 x2)
theorem l_X1_find {J : MJ} {m n : Nat} (hM : MemL J m n) (X : MI) (V : MemV) (x1 : Int32) (x2 : Int32) : Ev T_X1_find 12 [some (mR (some m)), some (mI x1), some (mI x2), some (mI 0)] [] (pt X m V, J) = some (some (mI (ql_X1_find V x1 x2)), (pt X m V, J)) := by
  have step := loop_find (fun k => Ev T_X1_find 12 [some (mR (some m)), some (mI x1), some (mI x2), some (mI (nI k))] [] (pt X m V, J)) (fun k => (if (V 1 k) = 0 then false else (if (V 2 k) = x1 then (if (V 3 k) = x2 then true else false) else false))) (fun k => some (some (mI ((nI k))), (pt X m V, J))) 64 (fun k hk => by
    try dsimp only
    rw [P_X1_find_12 hM _ _ _ _ _ (nI_pos (by omega)), if_neg (show ¬ (64 : Int32) ≤ nI k from nI_ge hk (by decide))]
    try rw [ix_nI (by omega)]
    rw [nI_1]
    by_cases k1 : (V 1 k) = 0
    ·
      simp [k1, nI_1]
    ·
      by_cases k2 : (V 2 k) = x1
      ·
        by_cases k3 : (V 3 k) = x2
        ·
          simp [k1, k2, k3, nI_1]
        ·
          simp [k1, k2, k3, nI_1]
      ·
        simp [k1, k2, nI_1]) 64 0 (by omega)
  have hend : Ev T_X1_find 12 [some (mR (some m)), some (mI x1), some (mI x2), some (mI (nI 64))] [] (pt X m V, J) = some (some (mI ((-1))), (pt X m V, J)) := by
    rw [P_X1_find_12 hM _ _ _ _ _ (nI_pos (by omega)), if_pos (show (64 : Int32) ≤ nI 64 from Int32.le_refl _)]
  have h0 : (nI 0) = 0 := rfl
  try dsimp only at step
  rw [h0] at step
  rw [step]
  unfold ql_X1_find f_X1_find
  cases fst? (fun k => (if (V 1 k) = 0 then false else (if (V 2 k) = x1 then (if (V 3 k) = x2 then true else false) else false))) 0 64 with
  | none => exact hend
  | some j => rfl
def q_X1_find (V : MemV) (x1 : Int32) (x2 : Int32) : Int32 := (if (q_X1_isEntry V x1) = 0 then (-1) else ql_X1_find V x1 x2)
theorem s_X1_find {J : MJ} {m n : Nat} (hM : MemL J m n) (X : MI) (V : MemV) (x1 : Int32) (x2 : Int32) : M_X1_find [mR (some m), mI x1, mI x2] (pt X m V, J) = some (some (mI (q_X1_find V x1 x2)), (pt X m V, J)) := by
  rw [P_X1_find hM]
  unfold q_X1_find
  by_cases k1 : (q_X1_isEntry V x1) = 0
  · repeat rewrite [if_pos k1]
    rfl
  · repeat rewrite [if_neg k1]
    exact l_X1_find hM _ _ _ _
def gV_X1_drop (V : MemV) (x1 : Int32) : MemV := (if x1 < 0 then V else (if x1 < 64 then (if (V 2 (ix x1)) < 0 then uv V 1 (ix x1) 0 else (if (64 : Int32) ≤ (V 2 (ix x1)) then uv V 1 (ix x1) 0 else uv (uv V 1 (ix x1) 0) 5 (ix (V 2 (ix x1))) ((V 5 (ix (V 2 (ix x1)))) - 1))) else V))
theorem s_X1_drop {J : MJ} {m n : Nat} (hM : MemL J m n) (X : MI) (V : MemV) (x1 : Int32) : M_X1_drop [mR (some m), mI x1] (pt X m V, J) = some (none, (pt X m (gV_X1_drop V x1), J)) := by
  generalize hR : some (none, (pt X m (gV_X1_drop V x1), J)) = R
  rw [E_X1_drop]
  unfold gV_X1_drop at hR
  by_cases h1 : x1 < 0
  · rewrite [if_pos h1]; simp only [if_pos h1] at hR
    exact hR
  · rewrite [if_neg h1]; simp only [if_neg h1] at hR
    by_cases h2 : x1 < 64
    · rewrite [if_pos h2]; simp only [if_pos h2] at hR
      try rewrite [fR_ok 1 hM.k]
      try rewrite [Option.bind_some]
      try rewrite [hM.r1]
      try simp only [Option.bind_some]
      try rewrite [st_ok _ _ hM.s1 (inb_of rfl h1 (Int32.not_le.mpr h2))]
      try rewrite [Option.bind_some]
      try rewrite [u12_1]
      try rewrite [fR_ok 2 hM.k]
      try rewrite [Option.bind_some]
      try rewrite [hM.r2]
      try simp only [Option.bind_some]
      try rewrite [ld_ok _ hM.s2 (inb_of rfl h1 (Int32.not_le.mpr h2))]
      try rewrite [Option.bind_some]
      try rewrite [p12_2]
      try rewrite [uv_k _ _ _ _ _ (by decide)]
      by_cases h3 : (V 2 (ix x1)) < 0
      · rewrite [if_pos h3]; simp only [if_pos h3] at hR
        exact hR
      · rewrite [if_neg h3]; simp only [if_neg h3] at hR
        by_cases h4 : (64 : Int32) ≤ (V 2 (ix x1))
        · rewrite [if_pos h4]; simp only [if_pos h4] at hR
          exact hR
        · rewrite [if_neg h4]; simp only [if_neg h4] at hR
          try rewrite [fR_ok 5 hM.k]
          try rewrite [Option.bind_some]
          try rewrite [hM.r5]
          try simp only [Option.bind_some]
          try rewrite [ld_ok _ hM.s5 (inb_of rfl h3 h4)]
          try rewrite [Option.bind_some]
          try rewrite [p12_5]
          try rewrite [uv_k _ _ _ _ _ (by decide)]
          try simp only [Option.bind_some]
          try rewrite [st_ok _ _ hM.s5 (inb_of rfl h3 h4)]
          try rewrite [Option.bind_some]
          try rewrite [u12_5]
          exact hR
    · rewrite [if_neg h2]; simp only [if_neg h2] at hR
      exact hR
def gV_X1_release (V : MemV) (x1 : Int32) : MemV := (if x1 < 0 then V else (if x1 < 64 then (if (V 1 (ix x1)) = 2 then (if (0 : Int32) < ((V 5 (ix x1)) - 1) then uv V 5 (ix x1) ((V 5 (ix x1)) - 1) else uv (uv V 5 (ix x1) ((V 5 (ix x1)) - 1)) 1 (ix x1) 0) else uv V 5 (ix x1) ((V 5 (ix x1)) - 1)) else V))
theorem s_X1_release {J : MJ} {m n : Nat} (hM : MemL J m n) (X : MI) (V : MemV) (x1 : Int32) : M_X1_release [mR (some m), mI x1] (pt X m V, J) = some (none, (pt X m (gV_X1_release V x1), J)) := by
  generalize hR : some (none, (pt X m (gV_X1_release V x1), J)) = R
  rw [E_X1_release]
  unfold gV_X1_release at hR
  by_cases h1 : x1 < 0
  · rewrite [if_pos h1]; simp only [if_pos h1] at hR
    exact hR
  · rewrite [if_neg h1]; simp only [if_neg h1] at hR
    by_cases h2 : x1 < 64
    · rewrite [if_pos h2]; simp only [if_pos h2] at hR
      try rewrite [fR_ok 5 hM.k]
      try rewrite [Option.bind_some]
      try rewrite [hM.r5]
      try simp only [Option.bind_some]
      try rewrite [ld_ok _ hM.s5 (inb_of rfl h1 (Int32.not_le.mpr h2))]
      try rewrite [Option.bind_some]
      try rewrite [p12_5]
      try simp only [Option.bind_some]
      try rewrite [st_ok _ _ hM.s5 (inb_of rfl h1 (Int32.not_le.mpr h2))]
      try rewrite [Option.bind_some]
      try rewrite [u12_5]
      try rewrite [fR_ok 1 hM.k]
      try rewrite [Option.bind_some]
      try rewrite [hM.r1]
      try simp only [Option.bind_some]
      try rewrite [ld_ok _ hM.s1 (inb_of rfl h1 (Int32.not_le.mpr h2))]
      try rewrite [Option.bind_some]
      try rewrite [p12_1]
      try rewrite [uv_k _ _ _ _ _ (by decide)]
      by_cases h3 : (V 1 (ix x1)) = 2
      · rewrite [if_pos h3]; simp only [if_pos h3] at hR
        try rewrite [fR_ok 5 hM.k]
        try rewrite [Option.bind_some]
        try rewrite [hM.r5]
        try simp only [Option.bind_some]
        try rewrite [ld_ok _ hM.s5 (inb_of rfl h1 (Int32.not_le.mpr h2))]
        try rewrite [Option.bind_some]
        try rewrite [p12_5]
        try rewrite [uv_s]
        by_cases h4 : (0 : Int32) < ((V 5 (ix x1)) - 1)
        · rewrite [if_pos h4]; simp only [if_pos h4] at hR
          exact hR
        · rewrite [if_neg h4]; simp only [if_neg h4] at hR
          try rewrite [fR_ok 1 hM.k]
          try rewrite [Option.bind_some]
          try rewrite [hM.r1]
          try simp only [Option.bind_some]
          try rewrite [st_ok _ _ hM.s1 (inb_of rfl h1 (Int32.not_le.mpr h2))]
          try rewrite [Option.bind_some]
          try rewrite [u12_1]
          exact hR
      · rewrite [if_neg h3]; simp only [if_neg h3] at hR
        exact hR
    · rewrite [if_neg h2]; simp only [if_neg h2] at hR
      exact hR
theorem P_X1_howManyButRoots {J : MJ} {m n : Nat} (hM : MemL J m n) (X : MI) (V : MemV) : M_X1_howManyButRoots [mR (some m)] (pt X m V, J) = Ev T_X1_howManyButRoots 4 [some (mR (some m)), some (mI 0), some (mI 0)] [] (pt X m V, J) := by
  generalize hR : Ev T_X1_howManyButRoots 4 [some (mR (some m)), some (mI 0), some (mI 0)] [] (pt X m V, J) = R
  rw [E_X1_howManyButRoots]
  exact hR
theorem P_X1_howManyButRoots_4 {J : MJ} {m n : Nat} (hM : MemL J m n) (X : MI) (V : MemV) (x1 : Int32) (x2 : Int32) (h_x2 : ¬ x2 < 0) : Ev T_X1_howManyButRoots 4 [some (mR (some m)), some (mI x1), some (mI x2)] [] (pt X m V, J) = (if (64 : Int32) ≤ x2 then some (some (mI x1), (pt X m V, J)) else (if (V 1 (ix x2)) = 2 then Ev T_X1_howManyButRoots 4 [some (mR (some m)), some (mI (x1 + 1)), some (mI (x2 + 1))] [] (pt X m V, J) else (if (V 1 (ix x2)) = 1 then (if (V 2 (ix x2)) = ((-1)) then Ev T_X1_howManyButRoots 4 [some (mR (some m)), some (mI (x1 + 0)), some (mI (x2 + 1))] [] (pt X m V, J) else Ev T_X1_howManyButRoots 4 [some (mR (some m)), some (mI (x1 + 1)), some (mI (x2 + 1))] [] (pt X m V, J)) else Ev T_X1_howManyButRoots 4 [some (mR (some m)), some (mI (x1 + 0)), some (mI (x2 + 1))] [] (pt X m V, J)))) := by
  generalize hR : (if (64 : Int32) ≤ x2 then some (some (mI x1), (pt X m V, J)) else (if (V 1 (ix x2)) = 2 then Ev T_X1_howManyButRoots 4 [some (mR (some m)), some (mI (x1 + 1)), some (mI (x2 + 1))] [] (pt X m V, J) else (if (V 1 (ix x2)) = 1 then (if (V 2 (ix x2)) = ((-1)) then Ev T_X1_howManyButRoots 4 [some (mR (some m)), some (mI (x1 + 0)), some (mI (x2 + 1))] [] (pt X m V, J) else Ev T_X1_howManyButRoots 4 [some (mR (some m)), some (mI (x1 + 1)), some (mI (x2 + 1))] [] (pt X m V, J)) else Ev T_X1_howManyButRoots 4 [some (mR (some m)), some (mI (x1 + 0)), some (mI (x2 + 1))] [] (pt X m V, J)))) = R
  rw [E_X1_howManyButRoots_4]
  by_cases h1 : (64 : Int32) ≤ x2
  · rewrite [if_pos h1]; simp only [if_pos h1] at hR
    exact hR
  · rewrite [if_neg h1]; simp only [if_neg h1] at hR
    try rewrite [fR_ok 1 hM.k]
    try rewrite [Option.bind_some]
    try rewrite [hM.r1]
    try simp only [Option.bind_some]
    try rewrite [ld_ok _ hM.s1 (inb_of rfl h_x2 h1)]
    try rewrite [Option.bind_some]
    try rewrite [p12_1]
    by_cases h2 : (V 1 (ix x2)) = 2
    · rewrite [if_pos h2]; simp only [if_pos h2] at hR
      exact hR
    · rewrite [if_neg h2]; simp only [if_neg h2] at hR
      try rewrite [fR_ok 1 hM.k]
      try rewrite [Option.bind_some]
      try rewrite [hM.r1]
      try simp only [Option.bind_some]
      try rewrite [ld_ok _ hM.s1 (inb_of rfl h_x2 h1)]
      try rewrite [Option.bind_some]
      try rewrite [p12_1]
      by_cases h3 : (V 1 (ix x2)) = 1
      · rewrite [if_pos h3]; simp only [if_pos h3] at hR
        try rewrite [fR_ok 2 hM.k]
        try rewrite [Option.bind_some]
        try rewrite [hM.r2]
        try simp only [Option.bind_some]
        try rewrite [ld_ok _ hM.s2 (inb_of rfl h_x2 h1)]
        try rewrite [Option.bind_some]
        try rewrite [p12_2]
        by_cases h4 : (V 2 (ix x2)) = ((-1))
        · rewrite [if_pos h4]; simp only [if_pos h4] at hR
          exact hR
        · rewrite [if_neg h4]; simp only [if_neg h4] at hR
          exact hR
      · rewrite [if_neg h3]; simp only [if_neg h3] at hR
        exact hR
def c_X1_howManyButRoots (V : MemV)  : Nat := cnt (fun k => (if (V 1 k) = 2 then true else (if (V 1 k) = 1 then (if (V 2 k) = ((-1)) then false else true) else false))) 0 64
def ql_X1_howManyButRoots (V : MemV)  : Int32 := nI (c_X1_howManyButRoots V)
theorem l_X1_howManyButRoots {J : MJ} {m n : Nat} (hM : MemL J m n) (X : MI) (V : MemV)  : Ev T_X1_howManyButRoots 4 [some (mR (some m)), some (mI 0), some (mI 0)] [] (pt X m V, J) = some (some (mI (ql_X1_howManyButRoots V)), (pt X m V, J)) := by
  have step := loop_cnt (fun k c => Ev T_X1_howManyButRoots 4 [some (mR (some m)), some (mI (nI c)), some (mI (nI k))] [] (pt X m V, J)) (fun k => (if (V 1 k) = 2 then true else (if (V 1 k) = 1 then (if (V 2 k) = ((-1)) then false else true) else false))) 64 (fun k c hk => by
    try dsimp only
    rw [P_X1_howManyButRoots_4 hM _ _ _ _ (nI_pos (by omega)), if_neg (show ¬ (64 : Int32) ≤ nI k from nI_ge hk (by decide))]
    try rw [ix_nI (by omega)]
    rw [nI_1 k]
    by_cases k1 : (V 1 k) = 2
    ·
      simp [k1, nI_1]
    ·
      by_cases k2 : (V 1 k) = 1
      ·
        by_cases k3 : (V 2 k) = ((-1))
        ·
          simp [k1, k2, k3, nI_1]
        ·
          simp [k1, k2, k3, nI_1]
      ·
        simp [k1, k2, nI_1]) 64 0 0 (by omega)
  have h0 : (nI 0) = 0 := rfl
  try dsimp only at step
  rw [h0] at step
  rw [step, P_X1_howManyButRoots_4 hM _ _ _ _ (nI_pos (by omega)), if_pos (show (64 : Int32) ≤ nI 64 from Int32.le_refl _), Nat.zero_add]
  rfl
def q_X1_howManyButRoots (V : MemV)  : Int32 := ql_X1_howManyButRoots V
theorem s_X1_howManyButRoots {J : MJ} {m n : Nat} (hM : MemL J m n) (X : MI) (V : MemV)  : M_X1_howManyButRoots [mR (some m)] (pt X m V, J) = some (some (mI (q_X1_howManyButRoots V)), (pt X m V, J)) := by
  rw [P_X1_howManyButRoots hM]
  unfold q_X1_howManyButRoots
  exact l_X1_howManyButRoots hM _ _
theorem P_X1_longestUnused {J : MJ} {m n : Nat} (hM : MemL J m n) (X : MI) (V : MemV) (x1 : Int32) : M_X1_longestUnused [mR (some m), mI x1] (pt X m V, J) = Ev T_X1_longestUnused 7 [some (mR (some m)), some (mI x1), some (mI ((-1))), some (mI 0), some (mI 0), none] [] (pt X m V, J) := by
  generalize hR : Ev T_X1_longestUnused 7 [some (mR (some m)), some (mI x1), some (mI ((-1))), some (mI 0), some (mI 0), none] [] (pt X m V, J) = R
  rw [E_X1_longestUnused]
  exact hR
theorem P_X1_longestUnused_7 {J : MJ} {m n : Nat} (hM : MemL J m n) (X : MI) (V : MemV) (x1 : Int32) (x2 : Int32) (x3 : Int32) (x4 : Int32) (h_x4 : ¬ x4 < 0) : Ev T_X1_longestUnused 7 [some (mR (some m)), some (mI x1), some (mI x2), some (mI x3), some (mI x4), none] [] (pt X m V, J) = (if (64 : Int32) ≤ x4 then some (some (mI x2), (pt X m V, J)) else (if (V 1 (ix x4)) = 1 then (if (V 5 (ix x4)) = 0 then (if (V 2 (ix x4)) = ((-1)) then Ev T_X1_longestUnused 7 [some (mR (some m)), some (mI x1), some (mI x2), some (mI x3), some (mI (x4 + 1)), none] [] (pt X m V, J) else (if x4 = x1 then Ev T_X1_longestUnused 7 [some (mR (some m)), some (mI x1), some (mI x2), some (mI x3), some (mI (x4 + 1)), none] [] (pt X m V, J) else (if x2 = ((-1)) then Ev T_X1_longestUnused 7 [some (mR (some m)), some (mI x1), some (mI x4), some (mI (V 7 (ix x4))), some (mI (x4 + 1)), none] [] (pt X m V, J) else (if x3 ≤ (V 7 (ix x4)) then Ev T_X1_longestUnused 7 [some (mR (some m)), some (mI x1), some (mI x2), some (mI x3), some (mI (x4 + 1)), none] [] (pt X m V, J) else Ev T_X1_longestUnused 7 [some (mR (some m)), some (mI x1), some (mI x4), some (mI (V 7 (ix x4))), some (mI (x4 + 1)), none] [] (pt X m V, J))))) else Ev T_X1_longestUnused 7 [some (mR (some m)), some (mI x1), some (mI x2), some (mI x3), some (mI (x4 + 1)), none] [] (pt X m V, J)) else Ev T_X1_longestUnused 7 [some (mR (some m)), some (mI x1), some (mI x2), some (mI x3), some (mI (x4 + 1)), none] [] (pt X m V, J))) := by
  generalize hR : (if (64 : Int32) ≤ x4 then some (some (mI x2), (pt X m V, J)) else (if (V 1 (ix x4)) = 1 then (if (V 5 (ix x4)) = 0 then (if (V 2 (ix x4)) = ((-1)) then Ev T_X1_longestUnused 7 [some (mR (some m)), some (mI x1), some (mI x2), some (mI x3), some (mI (x4 + 1)), none] [] (pt X m V, J) else (if x4 = x1 then Ev T_X1_longestUnused 7 [some (mR (some m)), some (mI x1), some (mI x2), some (mI x3), some (mI (x4 + 1)), none] [] (pt X m V, J) else (if x2 = ((-1)) then Ev T_X1_longestUnused 7 [some (mR (some m)), some (mI x1), some (mI x4), some (mI (V 7 (ix x4))), some (mI (x4 + 1)), none] [] (pt X m V, J) else (if x3 ≤ (V 7 (ix x4)) then Ev T_X1_longestUnused 7 [some (mR (some m)), some (mI x1), some (mI x2), some (mI x3), some (mI (x4 + 1)), none] [] (pt X m V, J) else Ev T_X1_longestUnused 7 [some (mR (some m)), some (mI x1), some (mI x4), some (mI (V 7 (ix x4))), some (mI (x4 + 1)), none] [] (pt X m V, J))))) else Ev T_X1_longestUnused 7 [some (mR (some m)), some (mI x1), some (mI x2), some (mI x3), some (mI (x4 + 1)), none] [] (pt X m V, J)) else Ev T_X1_longestUnused 7 [some (mR (some m)), some (mI x1), some (mI x2), some (mI x3), some (mI (x4 + 1)), none] [] (pt X m V, J))) = R
  rw [E_X1_longestUnused_7]
  by_cases h1 : (64 : Int32) ≤ x4
  · rewrite [if_pos h1]; simp only [if_pos h1] at hR
    exact hR
  · rewrite [if_neg h1]; simp only [if_neg h1] at hR
    try rewrite [fR_ok 1 hM.k]
    try rewrite [Option.bind_some]
    try rewrite [hM.r1]
    try simp only [Option.bind_some]
    try rewrite [ld_ok _ hM.s1 (inb_of rfl h_x4 h1)]
    try rewrite [Option.bind_some]
    try rewrite [p12_1]
    by_cases h2 : (V 1 (ix x4)) = 1
    · rewrite [if_pos h2]; simp only [if_pos h2] at hR
      try rewrite [fR_ok 5 hM.k]
      try rewrite [Option.bind_some]
      try rewrite [hM.r5]
      try simp only [Option.bind_some]
      try rewrite [ld_ok _ hM.s5 (inb_of rfl h_x4 h1)]
      try rewrite [Option.bind_some]
      try rewrite [p12_5]
      by_cases h3 : (V 5 (ix x4)) = 0
      · rewrite [if_pos h3]; simp only [if_pos h3] at hR
        try rewrite [fR_ok 2 hM.k]
        try rewrite [Option.bind_some]
        try rewrite [hM.r2]
        try simp only [Option.bind_some]
        try rewrite [ld_ok _ hM.s2 (inb_of rfl h_x4 h1)]
        try rewrite [Option.bind_some]
        try rewrite [p12_2]
        by_cases h4 : (V 2 (ix x4)) = ((-1))
        · rewrite [if_pos h4]; simp only [if_pos h4] at hR
          first | rewrite [if_pos (show (0 : Int32) = 0 by decide)] | rewrite [if_pos trivial] | simp only [if_true]
          exact hR
        · rewrite [if_neg h4]; simp only [if_neg h4] at hR
          first | rewrite [if_neg (show ¬ ((1 : Int32) = 0) by decide)] | rewrite [if_neg not_false] | simp only [if_false]
          by_cases h5 : x4 = x1
          · rewrite [if_pos h5]; simp only [if_pos h5] at hR
            exact hR
          · rewrite [if_neg h5]; simp only [if_neg h5] at hR
            by_cases h6 : x2 = ((-1))
            · rewrite [if_pos h6]; simp only [if_pos h6] at hR
              try rewrite [fR_ok 7 hM.k]
              try rewrite [Option.bind_some]
              try rewrite [hM.r7]
              try simp only [Option.bind_some]
              try rewrite [ld_ok _ hM.s7 (inb_of rfl h_x4 h1)]
              try rewrite [Option.bind_some]
              try rewrite [p12_7]
              exact hR
            · rewrite [if_neg h6]; simp only [if_neg h6] at hR
              try rewrite [fR_ok 7 hM.k]
              try rewrite [Option.bind_some]
              try rewrite [hM.r7]
              try simp only [Option.bind_some]
              try rewrite [ld_ok _ hM.s7 (inb_of rfl h_x4 h1)]
              try rewrite [Option.bind_some]
              try rewrite [p12_7]
              by_cases h7 : x3 ≤ (V 7 (ix x4))
              · rewrite [if_pos h7]; simp only [if_pos h7] at hR
                exact hR
              · rewrite [if_neg h7]; simp only [if_neg h7] at hR
                try rewrite [fR_ok 7 hM.k]
                try rewrite [Option.bind_some]
                try rewrite [hM.r7]
                try simp only [Option.bind_some]
                try rewrite [ld_ok _ hM.s7 (inb_of rfl h_x4 h1)]
                try rewrite [Option.bind_some]
                try rewrite [p12_7]
                exact hR
      · rewrite [if_neg h3]; simp only [if_neg h3] at hR
        first | rewrite [if_pos (show (0 : Int32) = 0 by decide)] | rewrite [if_pos trivial] | simp only [if_true]
        exact hR
    · rewrite [if_neg h2]; simp only [if_neg h2] at hR
      first | rewrite [if_pos (show (0 : Int32) = 0 by decide)] | rewrite [if_pos trivial] | simp only [if_true]
      exact hR
def lp_X1_longestUnused_7 (V : MemV) (x1 : Int32) : Nat → Nat → Int32 → Int32 → Int32
  | 0, k, x2, x3 => (x2)
  | nn + 1, k, x2, x3 => (if (V 1 k) = 1 then (if (V 5 k) = 0 then (if (V 2 k) = ((-1)) then lp_X1_longestUnused_7 V x1 nn (k + 1) x2 x3 else (if (nI k) = x1 then lp_X1_longestUnused_7 V x1 nn (k + 1) x2 x3 else (if x2 = ((-1)) then lp_X1_longestUnused_7 V x1 nn (k + 1) (nI k) (V 7 k) else (if x3 ≤ (V 7 k) then lp_X1_longestUnused_7 V x1 nn (k + 1) x2 x3 else lp_X1_longestUnused_7 V x1 nn (k + 1) (nI k) (V 7 k))))) else lp_X1_longestUnused_7 V x1 nn (k + 1) x2 x3) else lp_X1_longestUnused_7 V x1 nn (k + 1) x2 x3)
theorem lr_X1_longestUnused_7 {J : MJ} {m n : Nat} (hM : MemL J m n) (X : MI) (V : MemV) (x1 : Int32) : ∀ (nn k : Nat) (x2 : Int32) (x3 : Int32), k + nn = 64 → Ev T_X1_longestUnused 7 [some (mR (some m)), some (mI x1), some (mI x2), some (mI x3), some (mI (nI k)), none] [] (pt X m V, J) = some (some (mI ((lp_X1_longestUnused_7 V x1 nn k x2 x3))), (pt X m V, J)) := by
  intro nn
  induction nn with
  | zero =>
    intro k x2 x3 hk
    have hk : k = 64 := by omega
    subst hk
    generalize hR : some (some (mI ((lp_X1_longestUnused_7 V x1 0 64 x2 x3))), (pt X m V, J)) = R
    rw [lp_X1_longestUnused_7] at hR
    rw [P_X1_longestUnused_7 hM _ _ _ _ _ _ (nI_pos (by omega)), if_pos (show (64 : Int32) ≤ nI 64 from Int32.le_refl _)]
    exact hR
  | succ nn ih =>
    intro k x2 x3 hk
    generalize hR : some (some (mI ((lp_X1_longestUnused_7 V x1 (nn + 1) k x2 x3))), (pt X m V, J)) = R
    rw [lp_X1_longestUnused_7] at hR
    rw [P_X1_longestUnused_7 hM _ _ _ _ _ _ (nI_pos (by omega)), if_neg (show ¬ (64 : Int32) ≤ nI k from nI_ge (show k < 64 by omega) (by decide))]
    try rw [ix_nI (by omega)]
    rw [nI_1 k]
    by_cases k1 : (V 1 k) = 1
    · rewrite [if_pos k1]; simp only [if_pos k1] at hR
      by_cases k2 : (V 5 k) = 0
      · rewrite [if_pos k2]; simp only [if_pos k2] at hR
        by_cases k3 : (V 2 k) = ((-1))
        · rewrite [if_pos k3]; simp only [if_pos k3] at hR
          exact (ih (k + 1) _ _ (by omega)).trans hR
        · rewrite [if_neg k3]; simp only [if_neg k3] at hR
          by_cases k4 : (nI k) = x1
          · rewrite [if_pos k4]; simp only [if_pos k4] at hR
            exact (ih (k + 1) _ _ (by omega)).trans hR
          · rewrite [if_neg k4]; simp only [if_neg k4] at hR
            by_cases k5 : x2 = ((-1))
            · rewrite [if_pos k5]; simp only [if_pos k5] at hR
              exact (ih (k + 1) _ _ (by omega)).trans hR
            · rewrite [if_neg k5]; simp only [if_neg k5] at hR
              by_cases k6 : x3 ≤ (V 7 k)
              · rewrite [if_pos k6]; simp only [if_pos k6] at hR
                exact (ih (k + 1) _ _ (by omega)).trans hR
              · rewrite [if_neg k6]; simp only [if_neg k6] at hR
                exact (ih (k + 1) _ _ (by omega)).trans hR
      · rewrite [if_neg k2]; simp only [if_neg k2] at hR
        exact (ih (k + 1) _ _ (by omega)).trans hR
    · rewrite [if_neg k1]; simp only [if_neg k1] at hR
      exact (ih (k + 1) _ _ (by omega)).trans hR
def o_X1_longestUnused (V : MemV) (x1 : Int32) : Int32 := lp_X1_longestUnused_7 V x1 64 0 ((-1)) 0
def q_X1_longestUnused (V : MemV) (x1 : Int32) : Int32 := (o_X1_longestUnused V x1)
theorem s_X1_longestUnused {J : MJ} {m n : Nat} (hM : MemL J m n) (X : MI) (V : MemV) (x1 : Int32) : M_X1_longestUnused [mR (some m), mI x1] (pt X m V, J) = some (some (mI (q_X1_longestUnused V x1)), (pt X m V, J)) := by
  generalize hR : some (some (mI (q_X1_longestUnused V x1)), (pt X m V, J)) = R
  rw [P_X1_longestUnused hM]
  unfold q_X1_longestUnused o_X1_longestUnused at hR
  exact (lr_X1_longestUnused_7 hM X _ _ _ 0 _ _ (by omega)).trans hR
theorem P_X1_shrink {J : MJ} {m n : Nat} (hM : MemL J m n) (X : MI) (V : MemV) (x1 : Int32) : M_X1_shrink [mR (some m), mI x1] (pt X m V, J) = Ev T_X1_shrink 12 [some (mR (some m)), some (mI x1), some (mI ((q_X1_howManyButRoots V) - (V 0 11))), some (mI 0), none] [] (pt X m V, J) := by
  generalize hR : Ev T_X1_shrink 12 [some (mR (some m)), some (mI x1), some (mI ((q_X1_howManyButRoots V) - (V 0 11))), some (mI 0), none] [] (pt X m V, J) = R
  rw [E_X1_shrink]
  try simp only [Option.bind_some]
  rewrite [if_pos (show kd (pt X m V, J) m = 1 from hM.k)]
  rewrite [s_X1_howManyButRoots hM]
  simp only [Option.bind_some, asI_I]
  try rewrite [fI_ok 11 hM.k]
  try rewrite [Option.bind_some]
  try rewrite [p12_0]
  exact hR
theorem P_X1_shrink_12 {J : MJ} {m n : Nat} (hM : MemL J m n) (X : MI) (V : MemV) (x1 : Int32) (x2 : Int32) (x3 : Int32) : Ev T_X1_shrink 12 [some (mR (some m)), some (mI x1), some (mI x2), some (mI x3), none] [] (pt X m V, J) = (if x2 ≤ x3 then some (none, (pt X m V, J)) else (if (q_X1_longestUnused V x1) = ((-1)) then some (none, (pt X m V, J)) else Ev T_X1_shrink 12 [some (mR (some m)), some (mI x1), some (mI x2), some (mI (x3 + 1)), none] [] (pt X m (uv (gV_X1_drop V (q_X1_longestUnused V x1)) 0 14 (((gV_X1_drop V (q_X1_longestUnused V x1)) 0 14) + 1)), J))) := by
  generalize hR : (if x2 ≤ x3 then some (none, (pt X m V, J)) else (if (q_X1_longestUnused V x1) = ((-1)) then some (none, (pt X m V, J)) else Ev T_X1_shrink 12 [some (mR (some m)), some (mI x1), some (mI x2), some (mI (x3 + 1)), none] [] (pt X m (uv (gV_X1_drop V (q_X1_longestUnused V x1)) 0 14 (((gV_X1_drop V (q_X1_longestUnused V x1)) 0 14) + 1)), J))) = R
  rw [E_X1_shrink_12]
  by_cases h1 : x2 ≤ x3
  · rewrite [if_pos h1]; simp only [if_pos h1] at hR
    exact hR
  · rewrite [if_neg h1]; simp only [if_neg h1] at hR
    try simp only [Option.bind_some]
    rewrite [if_pos (show kd (pt X m V, J) m = 1 from hM.k)]
    rewrite [s_X1_longestUnused hM]
    simp only [Option.bind_some, asI_I]
    by_cases h2 : (q_X1_longestUnused V x1) = ((-1))
    · rewrite [if_pos h2]; simp only [if_pos h2] at hR
      exact hR
    · rewrite [if_neg h2]; simp only [if_neg h2] at hR
      try simp only [Option.bind_some]
      rewrite [if_pos (show kd (pt X m V, J) m = 1 from hM.k)]
      rewrite [s_X1_drop hM]
      simp only [Option.bind_some, asV_n]
      try rewrite [fI_ok 14 hM.k]
      try rewrite [Option.bind_some]
      try rewrite [p12_0]
      try rewrite [wI_ok 14 _ hM.k]
      try rewrite [Option.bind_some]
      try rewrite [u12_0]
      exact hR
def lp_X1_shrink_12 (x1 : Int32) (x2 : Int32) : Nat → Nat → MemV → MemV
  | 0, k, V => (V)
  | nn + 1, k, V => (if (q_X1_longestUnused V x1) = ((-1)) then (V) else lp_X1_shrink_12 x1 x2 nn (k + 1) (uv (gV_X1_drop V (q_X1_longestUnused V x1)) 0 14 (((gV_X1_drop V (q_X1_longestUnused V x1)) 0 14) + 1)))
theorem lr_X1_shrink_12 {J : MJ} {m n : Nat} (hM : MemL J m n) (X : MI) (x1 : Int32) (x2 : Int32) : ∀ (nn k : Nat) (V : MemV), k + nn = (ix x2) → Ev T_X1_shrink 12 [some (mR (some m)), some (mI x1), some (mI x2), some (mI (nI k)), none] [] (pt X m V, J) = some (none, (pt X m ((lp_X1_shrink_12 x1 x2 nn k V)), J)) := by
  intro nn
  induction nn with
  | zero =>
    intro k V hk
    have hk : k = (ix x2) := by omega
    subst hk
    generalize hR : some (none, (pt X m ((lp_X1_shrink_12 x1 x2 0 (ix x2) V)), J)) = R
    rw [lp_X1_shrink_12] at hR
    rw [P_X1_shrink_12 hM _ _ _ _ _, if_pos ((le_nI (ix_lt x2)).mpr (Nat.le_refl _))]
    exact hR
  | succ nn ih =>
    intro k V hk
    generalize hR : some (none, (pt X m ((lp_X1_shrink_12 x1 x2 (nn + 1) k V)), J)) = R
    rw [lp_X1_shrink_12] at hR
    rw [P_X1_shrink_12 hM _ _ _ _ _, if_neg (fun h => by have h2 := (le_nI (by have := ix_lt x2; omega)).mp h; omega)]
    try rw [ix_nI (by have := ix_lt x2; omega)]
    rw [nI_1 k]
    by_cases k1 : (q_X1_longestUnused V x1) = ((-1))
    · rewrite [if_pos k1]; simp only [if_pos k1] at hR
      exact hR
    · rewrite [if_neg k1]; simp only [if_neg k1] at hR
      exact (ih (k + 1) _ (by omega)).trans hR
def o_X1_shrink (V : MemV) (x1 : Int32) : MemV := lp_X1_shrink_12 x1 ((q_X1_howManyButRoots V) - (V 0 11)) (ix (((q_X1_howManyButRoots V) - (V 0 11)))) 0 V
def gV_X1_shrink (V : MemV) (x1 : Int32) : MemV := (o_X1_shrink V x1)
theorem s_X1_shrink {J : MJ} {m n : Nat} (hM : MemL J m n) (X : MI) (V : MemV) (x1 : Int32) : M_X1_shrink [mR (some m), mI x1] (pt X m V, J) = some (none, (pt X m ((gV_X1_shrink V x1)), J)) := by
  generalize hR : some (none, (pt X m ((gV_X1_shrink V x1)), J)) = R
  rw [P_X1_shrink hM]
  unfold gV_X1_shrink o_X1_shrink at hR
  exact (lr_X1_shrink_12 hM X _ _ _ 0 _ (by omega)).trans hR
def q_X1_reach (U : NodV) (V : MemV) (x1 : Int32) (x2 : Int32) : Int32 := (if (q_X1_find V x1 x2) = ((-1)) then (if (q_X1_add V x1 x2 (q_X2_find U (q_X1_nodeOf V x1) x2)) = ((-1)) then q_X1_add V x1 x2 (q_X2_find U (q_X1_nodeOf V x1) x2) else q_X1_add V x1 x2 (q_X2_find U (q_X1_nodeOf V x1) x2)) else q_X1_find V x1 x2)
def gV_X1_reach (U : NodV) (V : MemV) (x1 : Int32) (x2 : Int32) : MemV := (if (q_X1_find V x1 x2) = ((-1)) then (if (q_X1_add V x1 x2 (q_X2_find U (q_X1_nodeOf V x1) x2)) = ((-1)) then gV_X1_add V x1 x2 (q_X2_find U (q_X1_nodeOf V x1) x2) else gV_X1_shrink (uv (gV_X1_add V x1 x2 (q_X2_find U (q_X1_nodeOf V x1) x2)) 0 13 (((gV_X1_add V x1 x2 (q_X2_find U (q_X1_nodeOf V x1) x2)) 0 13) + 1)) (q_X1_add V x1 x2 (q_X2_find U (q_X1_nodeOf V x1) x2))) else gV_X1_comeTo V (q_X1_find V x1 x2))
theorem s_X1_reach {J : MJ} {n m : Nat} (hN : NodL J n) (hM : MemL J m n) (d_UV : n + 6 ≤ m ∨ m + 12 ≤ n) (X : MI) (U : NodV) (V : MemV) (x1 : Int32) (x2 : Int32) : M_X1_reach [mR (some m), mI x1, mI x2] (pt (pt X n U) m V, J) = some (some (mI (q_X1_reach U V x1 x2)), (pt (pt X n U) m (gV_X1_reach U V x1 x2), J)) := by
  generalize hR : some (some (mI (q_X1_reach U V x1 x2)), (pt (pt X n U) m (gV_X1_reach U V x1 x2), J)) = R
  rw [E_X1_reach]
  unfold q_X1_reach gV_X1_reach at hR
  try simp only [Option.bind_some]
  rewrite [if_pos (show kd (pt (pt X n U) m V, J) m = 1 from hM.k)]
  rewrite [s_X1_find hM]
  simp only [Option.bind_some, asI_I]
  by_cases h1 : (q_X1_find V x1 x2) = ((-1))
  · rewrite [if_pos h1]; simp only [if_pos h1] at hR
    try rewrite [fR_ok 0 hM.k]
    try rewrite [Option.bind_some]
    try rewrite [hM.r0]
    try simp only [Option.bind_some]
    rewrite [if_pos (show kd (pt (pt X n U) m V, J) m = 1 from hM.k)]
    rewrite [s_X1_nodeOf hM]
    simp only [Option.bind_some, asI_I]
    try simp only [Option.bind_some]
    rewrite [if_pos (show kd (pt (pt X n U) m V, J) n = 2 from hN.k)]
    rw [pt_comm X U V d_UV]
    rw [s_X2_find hN]
    rw [pt_comm X V U (Or.symm d_UV)]
    simp only [Option.bind_some, asI_I]
    try simp only [Option.bind_some]
    rewrite [if_pos (show kd (pt (pt X n U) m V, J) m = 1 from hM.k)]
    rewrite [s_X1_add hM]
    simp only [Option.bind_some, asI_I]
    by_cases h2 : (q_X1_add V x1 x2 (q_X2_find U (q_X1_nodeOf V x1) x2)) = ((-1))
    · rewrite [if_pos h2]; simp only [if_pos h2] at hR
      exact hR
    · rewrite [if_neg h2]; simp only [if_neg h2] at hR
      try rewrite [fI_ok 13 hM.k]
      try rewrite [Option.bind_some]
      try rewrite [p12_0]
      try rewrite [wI_ok 13 _ hM.k]
      try rewrite [Option.bind_some]
      try rewrite [u12_0]
      try simp only [Option.bind_some]
      rewrite [if_pos (show kd (pt (pt X n U) m (uv (gV_X1_add V x1 x2 (q_X2_find U (q_X1_nodeOf V x1) x2)) 0 13 (((gV_X1_add V x1 x2 (q_X2_find U (q_X1_nodeOf V x1) x2)) 0 13) + 1)), J) m = 1 from hM.k)]
      rewrite [s_X1_shrink hM]
      simp only [Option.bind_some, asV_n]
      exact hR
  · rewrite [if_neg h1]; simp only [if_neg h1] at hR
    try simp only [Option.bind_some]
    rewrite [if_pos (show kd (pt (pt X n U) m V, J) m = 1 from hM.k)]
    rewrite [s_X1_comeTo hM]
    simp only [Option.bind_some, asV_n]
    exact hR
theorem P_X1_trimSome {J : MJ} {m n : Nat} (hM : MemL J m n) (X : MI) (V : MemV) (x1 : Int32) : M_X1_trimSome [mR (some m), mI x1] (pt X m V, J) = Ev T_X1_trimSome 7 [some (mR (some m)), some (mI x1), some (mI (V 0 14)), some (mI 0), none] [] (pt X m V, J) := by
  generalize hR : Ev T_X1_trimSome 7 [some (mR (some m)), some (mI x1), some (mI (V 0 14)), some (mI 0), none] [] (pt X m V, J) = R
  rw [E_X1_trimSome]
  try rewrite [fI_ok 14 hM.k]
  try rewrite [Option.bind_some]
  try rewrite [p12_0]
  exact hR
theorem P_X1_trimSome_7 {J : MJ} {m n : Nat} (hM : MemL J m n) (X : MI) (V : MemV) (x1 : Int32) (x2 : Int32) (x3 : Int32) : Ev T_X1_trimSome 7 [some (mR (some m)), some (mI x1), some (mI x2), some (mI x3), none] [] (pt X m V, J) = (if x1 ≤ x3 then some (some (mI ((V 0 14) - x2)), (pt X m V, J)) else (if (q_X1_longestUnused V ((-1))) = ((-1)) then some (some (mI ((V 0 14) - x2)), (pt X m V, J)) else Ev T_X1_trimSome 7 [some (mR (some m)), some (mI x1), some (mI x2), some (mI (x3 + 1)), none] [] (pt X m (uv (gV_X1_drop V (q_X1_longestUnused V ((-1)))) 0 14 (((gV_X1_drop V (q_X1_longestUnused V ((-1)))) 0 14) + 1)), J))) := by
  generalize hR : (if x1 ≤ x3 then some (some (mI ((V 0 14) - x2)), (pt X m V, J)) else (if (q_X1_longestUnused V ((-1))) = ((-1)) then some (some (mI ((V 0 14) - x2)), (pt X m V, J)) else Ev T_X1_trimSome 7 [some (mR (some m)), some (mI x1), some (mI x2), some (mI (x3 + 1)), none] [] (pt X m (uv (gV_X1_drop V (q_X1_longestUnused V ((-1)))) 0 14 (((gV_X1_drop V (q_X1_longestUnused V ((-1)))) 0 14) + 1)), J))) = R
  rw [E_X1_trimSome_7]
  by_cases h1 : x1 ≤ x3
  · rewrite [if_pos h1]; simp only [if_pos h1] at hR
    try rewrite [fI_ok 14 hM.k]
    try rewrite [Option.bind_some]
    try rewrite [p12_0]
    exact hR
  · rewrite [if_neg h1]; simp only [if_neg h1] at hR
    try simp only [Option.bind_some]
    rewrite [if_pos (show kd (pt X m V, J) m = 1 from hM.k)]
    rewrite [s_X1_longestUnused hM]
    simp only [Option.bind_some, asI_I]
    by_cases h2 : (q_X1_longestUnused V ((-1))) = ((-1))
    · rewrite [if_pos h2]; simp only [if_pos h2] at hR
      try rewrite [fI_ok 14 hM.k]
      try rewrite [Option.bind_some]
      try rewrite [p12_0]
      exact hR
    · rewrite [if_neg h2]; simp only [if_neg h2] at hR
      try simp only [Option.bind_some]
      rewrite [if_pos (show kd (pt X m V, J) m = 1 from hM.k)]
      rewrite [s_X1_drop hM]
      simp only [Option.bind_some, asV_n]
      try rewrite [fI_ok 14 hM.k]
      try rewrite [Option.bind_some]
      try rewrite [p12_0]
      try rewrite [wI_ok 14 _ hM.k]
      try rewrite [Option.bind_some]
      try rewrite [u12_0]
      exact hR
def lp_X1_trimSome_7 (x1 : Int32) (x2 : Int32) : Nat → Nat → MemV → Int32 × MemV
  | 0, k, V => ((V 0 14) - x2, V)
  | nn + 1, k, V => (if (q_X1_longestUnused V ((-1))) = ((-1)) then ((V 0 14) - x2, V) else lp_X1_trimSome_7 x1 x2 nn (k + 1) (uv (gV_X1_drop V (q_X1_longestUnused V ((-1)))) 0 14 (((gV_X1_drop V (q_X1_longestUnused V ((-1)))) 0 14) + 1)))
theorem lr_X1_trimSome_7 {J : MJ} {m n : Nat} (hM : MemL J m n) (X : MI) (x1 : Int32) (x2 : Int32) : ∀ (nn k : Nat) (V : MemV), k + nn = (ix x1) → Ev T_X1_trimSome 7 [some (mR (some m)), some (mI x1), some (mI x2), some (mI (nI k)), none] [] (pt X m V, J) = some (some (mI ((lp_X1_trimSome_7 x1 x2 nn k V).1)), (pt X m ((lp_X1_trimSome_7 x1 x2 nn k V).2), J)) := by
  intro nn
  induction nn with
  | zero =>
    intro k V hk
    have hk : k = (ix x1) := by omega
    subst hk
    generalize hR : some (some (mI ((lp_X1_trimSome_7 x1 x2 0 (ix x1) V).1)), (pt X m ((lp_X1_trimSome_7 x1 x2 0 (ix x1) V).2), J)) = R
    rw [lp_X1_trimSome_7] at hR
    rw [P_X1_trimSome_7 hM _ _ _ _ _, if_pos ((le_nI (ix_lt x1)).mpr (Nat.le_refl _))]
    exact hR
  | succ nn ih =>
    intro k V hk
    generalize hR : some (some (mI ((lp_X1_trimSome_7 x1 x2 (nn + 1) k V).1)), (pt X m ((lp_X1_trimSome_7 x1 x2 (nn + 1) k V).2), J)) = R
    rw [lp_X1_trimSome_7] at hR
    rw [P_X1_trimSome_7 hM _ _ _ _ _, if_neg (fun h => by have h2 := (le_nI (by have := ix_lt x1; omega)).mp h; omega)]
    try rw [ix_nI (by have := ix_lt x1; omega)]
    rw [nI_1 k]
    by_cases k1 : (q_X1_longestUnused V ((-1))) = ((-1))
    · rewrite [if_pos k1]; simp only [if_pos k1] at hR
      exact hR
    · rewrite [if_neg k1]; simp only [if_neg k1] at hR
      exact (ih (k + 1) _ (by omega)).trans hR
def o_X1_trimSome (V : MemV) (x1 : Int32) : Int32 × MemV := lp_X1_trimSome_7 x1 (V 0 14) (ix x1) 0 V
def q_X1_trimSome (V : MemV) (x1 : Int32) : Int32 := (o_X1_trimSome V x1).1
def gV_X1_trimSome (V : MemV) (x1 : Int32) : MemV := (o_X1_trimSome V x1).2
theorem s_X1_trimSome {J : MJ} {m n : Nat} (hM : MemL J m n) (X : MI) (V : MemV) (x1 : Int32) : M_X1_trimSome [mR (some m), mI x1] (pt X m V, J) = some (some (mI (q_X1_trimSome V x1)), (pt X m ((gV_X1_trimSome V x1)), J)) := by
  generalize hR : some (some (mI (q_X1_trimSome V x1)), (pt X m ((gV_X1_trimSome V x1)), J)) = R
  rw [P_X1_trimSome hM]
  unfold q_X1_trimSome gV_X1_trimSome o_X1_trimSome at hR
  exact (lr_X1_trimSome_7 hM X _ _ _ 0 _ (by omega)).trans hR
def q_X1_comeToRoot (V : MemV) : Int32 := (gV_X1_comeTo (uv V 0 16 0) (V 9 0)) 9 0
def gV_X1_comeToRoot (V : MemV) : MemV := gV_X1_comeTo (uv V 0 16 0) (V 9 0)
theorem s_X1_comeToRoot {J : MJ} {m n : Nat} (hM : MemL J m n) (X : MI) (V : MemV) : M_X1_comeToRoot [mR (some m)] (pt X m V, J) = some (some (mI (q_X1_comeToRoot V)), (pt X m (gV_X1_comeToRoot V), J)) := by
  generalize hR : some (some (mI (q_X1_comeToRoot V)), (pt X m (gV_X1_comeToRoot V), J)) = R
  rw [E_X1_comeToRoot]
  unfold q_X1_comeToRoot gV_X1_comeToRoot at hR
  try rewrite [wI_ok 16 _ hM.k]
  try rewrite [Option.bind_some]
  try rewrite [u12_0]
  try rewrite [fR_ok 9 hM.k]
  try rewrite [Option.bind_some]
  try rewrite [hM.r9]
  try simp only [Option.bind_some]
  try rewrite [ld_ok _ hM.s9 (by decide)]
  try rewrite [Option.bind_some]
  try rewrite [p12_9]
  try rewrite [show Int32.toNatClampNeg 0 = 0 from rfl]
  try rewrite [uv_k _ _ _ _ _ (by decide)]
  try simp only [Option.bind_some]
  rewrite [if_pos (show kd (pt X m (uv V 0 16 0), J) m = 1 from hM.k)]
  rewrite [s_X1_comeTo hM]
  simp only [Option.bind_some, asV_n]
  try rewrite [fR_ok 9 hM.k]
  try rewrite [Option.bind_some]
  try rewrite [hM.r9]
  try simp only [Option.bind_some]
  try rewrite [ld_ok _ hM.s9 (by decide)]
  try rewrite [Option.bind_some]
  try rewrite [p12_9]
  try rewrite [show Int32.toNatClampNeg 0 = 0 from rfl]
  exact hR
def q_X1_stepUp (V : MemV) (x1 : Int32) : Int32 := (if (q_X1_rootVolume V x1) = 0 then x1 else (if (q_X1_rootVolume V x1) = ((-1)) then (if (q_X1_isEntry V x1) = 0 then x1 else (if (q_X1_isEntry V (V 2 (ix x1))) = 0 then x1 else (gV_X1_comeTo V (V 2 (ix x1))) 2 (ix x1))) else (if (q_X1_isEntry (gV_X1_comeTo V (q_X1_coveredBy V (q_X1_rootVolume V x1))) (q_X1_coveredBy V (q_X1_rootVolume V x1))) = 0 then x1 else (if (q_X1_isEntry (gV_X1_comeTo V (q_X1_coveredBy V (q_X1_rootVolume V x1))) ((gV_X1_comeTo V (q_X1_coveredBy V (q_X1_rootVolume V x1))) 2 (ix (q_X1_coveredBy V (q_X1_rootVolume V x1))))) = 0 then x1 else (gV_X1_comeTo (gV_X1_comeTo V (q_X1_coveredBy V (q_X1_rootVolume V x1))) ((gV_X1_comeTo V (q_X1_coveredBy V (q_X1_rootVolume V x1))) 2 (ix (q_X1_coveredBy V (q_X1_rootVolume V x1))))) 2 (ix (q_X1_coveredBy V (q_X1_rootVolume V x1)))))))
def gV_X1_stepUp (V : MemV) (x1 : Int32) : MemV := (if (q_X1_rootVolume V x1) = 0 then V else (if (q_X1_rootVolume V x1) = ((-1)) then (if (q_X1_isEntry V x1) = 0 then V else (if (q_X1_isEntry V (V 2 (ix x1))) = 0 then V else gV_X1_comeTo V (V 2 (ix x1)))) else (if (q_X1_isEntry (gV_X1_comeTo V (q_X1_coveredBy V (q_X1_rootVolume V x1))) (q_X1_coveredBy V (q_X1_rootVolume V x1))) = 0 then gV_X1_comeTo V (q_X1_coveredBy V (q_X1_rootVolume V x1)) else (if (q_X1_isEntry (gV_X1_comeTo V (q_X1_coveredBy V (q_X1_rootVolume V x1))) ((gV_X1_comeTo V (q_X1_coveredBy V (q_X1_rootVolume V x1))) 2 (ix (q_X1_coveredBy V (q_X1_rootVolume V x1))))) = 0 then gV_X1_comeTo V (q_X1_coveredBy V (q_X1_rootVolume V x1)) else gV_X1_comeTo (gV_X1_comeTo V (q_X1_coveredBy V (q_X1_rootVolume V x1))) ((gV_X1_comeTo V (q_X1_coveredBy V (q_X1_rootVolume V x1))) 2 (ix (q_X1_coveredBy V (q_X1_rootVolume V x1))))))))
theorem s_X1_stepUp {J : MJ} {m n : Nat} (hM : MemL J m n) (X : MI) (V : MemV) (x1 : Int32) : M_X1_stepUp [mR (some m), mI x1] (pt X m V, J) = some (some (mI (q_X1_stepUp V x1)), (pt X m (gV_X1_stepUp V x1), J)) := by
  generalize hR : some (some (mI (q_X1_stepUp V x1)), (pt X m (gV_X1_stepUp V x1), J)) = R
  rw [E_X1_stepUp]
  unfold q_X1_stepUp gV_X1_stepUp at hR
  try simp only [Option.bind_some]
  rewrite [if_pos (show kd (pt X m V, J) m = 1 from hM.k)]
  rewrite [s_X1_rootVolume hM]
  simp only [Option.bind_some, asI_I]
  by_cases h1 : (q_X1_rootVolume V x1) = 0
  · rewrite [if_pos h1]; simp only [if_pos h1] at hR
    exact hR
  · rewrite [if_neg h1]; simp only [if_neg h1] at hR
    by_cases h2 : (q_X1_rootVolume V x1) = ((-1))
    · rewrite [if_pos h2]; simp only [if_pos h2] at hR
      try simp only [Option.bind_some]
      rewrite [if_pos (show kd (pt X m V, J) m = 1 from hM.k)]
      rewrite [s_X1_isEntry hM]
      simp only [Option.bind_some, asI_I]
      by_cases h3 : (q_X1_isEntry V x1) = 0
      · rewrite [if_pos h3]; simp only [if_pos h3] at hR
        exact hR
      · rewrite [if_neg h3]; simp only [if_neg h3] at hR
        try rewrite [fR_ok 2 hM.k]
        try rewrite [Option.bind_some]
        try rewrite [hM.r2]
        try simp only [Option.bind_some]
        try rewrite [ld_ok _ hM.s2 (b_X1_isEntry_0 h3)]
        try rewrite [Option.bind_some]
        try rewrite [p12_2]
        try simp only [Option.bind_some]
        rewrite [if_pos (show kd (pt X m V, J) m = 1 from hM.k)]
        rewrite [s_X1_isEntry hM]
        simp only [Option.bind_some, asI_I]
        by_cases h4 : (q_X1_isEntry V (V 2 (ix x1))) = 0
        · rewrite [if_pos h4]; simp only [if_pos h4] at hR
          exact hR
        · rewrite [if_neg h4]; simp only [if_neg h4] at hR
          try rewrite [fR_ok 2 hM.k]
          try rewrite [Option.bind_some]
          try rewrite [hM.r2]
          try simp only [Option.bind_some]
          try rewrite [ld_ok _ hM.s2 (b_X1_isEntry_0 h3)]
          try rewrite [Option.bind_some]
          try rewrite [p12_2]
          try simp only [Option.bind_some]
          rewrite [if_pos (show kd (pt X m V, J) m = 1 from hM.k)]
          rewrite [s_X1_comeTo hM]
          simp only [Option.bind_some, asV_n]
          try rewrite [fR_ok 2 hM.k]
          try rewrite [Option.bind_some]
          try rewrite [hM.r2]
          try simp only [Option.bind_some]
          try rewrite [ld_ok _ hM.s2 (b_X1_isEntry_0 h3)]
          try rewrite [Option.bind_some]
          try rewrite [p12_2]
          exact hR
    · rewrite [if_neg h2]; simp only [if_neg h2] at hR
      try simp only [Option.bind_some]
      rewrite [if_pos (show kd (pt X m V, J) m = 1 from hM.k)]
      rewrite [s_X1_coveredBy hM]
      simp only [Option.bind_some, asI_I]
      try simp only [Option.bind_some]
      rewrite [if_pos (show kd (pt X m V, J) m = 1 from hM.k)]
      rewrite [s_X1_comeTo hM]
      simp only [Option.bind_some, asV_n]
      try simp only [Option.bind_some]
      rewrite [if_pos (show kd (pt X m (gV_X1_comeTo V (q_X1_coveredBy V (q_X1_rootVolume V x1))), J) m = 1 from hM.k)]
      rewrite [s_X1_isEntry hM]
      simp only [Option.bind_some, asI_I]
      by_cases h5 : (q_X1_isEntry (gV_X1_comeTo V (q_X1_coveredBy V (q_X1_rootVolume V x1))) (q_X1_coveredBy V (q_X1_rootVolume V x1))) = 0
      · rewrite [if_pos h5]; simp only [if_pos h5] at hR
        exact hR
      · rewrite [if_neg h5]; simp only [if_neg h5] at hR
        try rewrite [fR_ok 2 hM.k]
        try rewrite [Option.bind_some]
        try rewrite [hM.r2]
        try simp only [Option.bind_some]
        try rewrite [ld_ok _ hM.s2 (b_X1_isEntry_0 h5)]
        try rewrite [Option.bind_some]
        try rewrite [p12_2]
        try simp only [Option.bind_some]
        rewrite [if_pos (show kd (pt X m (gV_X1_comeTo V (q_X1_coveredBy V (q_X1_rootVolume V x1))), J) m = 1 from hM.k)]
        rewrite [s_X1_isEntry hM]
        simp only [Option.bind_some, asI_I]
        by_cases h6 : (q_X1_isEntry (gV_X1_comeTo V (q_X1_coveredBy V (q_X1_rootVolume V x1))) ((gV_X1_comeTo V (q_X1_coveredBy V (q_X1_rootVolume V x1))) 2 (ix (q_X1_coveredBy V (q_X1_rootVolume V x1))))) = 0
        · rewrite [if_pos h6]; simp only [if_pos h6] at hR
          exact hR
        · rewrite [if_neg h6]; simp only [if_neg h6] at hR
          try rewrite [fR_ok 2 hM.k]
          try rewrite [Option.bind_some]
          try rewrite [hM.r2]
          try simp only [Option.bind_some]
          try rewrite [ld_ok _ hM.s2 (b_X1_isEntry_0 h5)]
          try rewrite [Option.bind_some]
          try rewrite [p12_2]
          try simp only [Option.bind_some]
          rewrite [if_pos (show kd (pt X m (gV_X1_comeTo V (q_X1_coveredBy V (q_X1_rootVolume V x1))), J) m = 1 from hM.k)]
          rewrite [s_X1_comeTo hM]
          simp only [Option.bind_some, asV_n]
          try rewrite [fR_ok 2 hM.k]
          try rewrite [Option.bind_some]
          try rewrite [hM.r2]
          try simp only [Option.bind_some]
          try rewrite [ld_ok _ hM.s2 (b_X1_isEntry_0 h5)]
          try rewrite [Option.bind_some]
          try rewrite [p12_2]
          exact hR
def q_X1_stepFrom (U : NodV) (V : MemV) (x1 : Int32) (x2 : Int32) : Int32 := (if x2 = ((-1)) then x1 else (if x2 = ((-2)) then q_X1_stepUp (uv V 0 16 0) x1 else (if (q_X1_isFolder U (uv V 0 16 0) x1) = 0 then (-3) else (if (q_X1_isEntry (gV_X1_reach U (uv V 0 16 0) x1 x2) (q_X1_reach U (uv V 0 16 0) x1 x2)) = 0 then (-2) else (if ((gV_X1_reach U (uv V 0 16 0) x1 x2) 4 (ix (q_X1_reach U (uv V 0 16 0) x1 x2))) = ((-1)) then (-2) else (if (q_X1_coveringVolume (gV_X1_reach U (uv V 0 16 0) x1 x2) (q_X1_reach U (uv V 0 16 0) x1 x2)) < 0 then q_X1_reach U (uv V 0 16 0) x1 x2 else (if (q_X1_coveringVolume (gV_X1_reach U (uv V 0 16 0) x1 x2) (q_X1_reach U (uv V 0 16 0) x1 x2)) < 3 then (gV_X1_comeTo (gV_X1_reach U (uv V 0 16 0) x1 x2) ((gV_X1_reach U (uv V 0 16 0) x1 x2) 9 (ix (q_X1_coveringVolume (gV_X1_reach U (uv V 0 16 0) x1 x2) (q_X1_reach U (uv V 0 16 0) x1 x2))))) 9 (ix (q_X1_coveringVolume (gV_X1_reach U (uv V 0 16 0) x1 x2) (q_X1_reach U (uv V 0 16 0) x1 x2))) else q_X1_reach U (uv V 0 16 0) x1 x2)))))))
def gV_X1_stepFrom (U : NodV) (V : MemV) (x1 : Int32) (x2 : Int32) : MemV := (if x2 = ((-1)) then uv V 0 16 0 else (if x2 = ((-2)) then gV_X1_stepUp (uv V 0 16 0) x1 else (if (q_X1_isFolder U (uv V 0 16 0) x1) = 0 then uv V 0 16 0 else (if (q_X1_isEntry (gV_X1_reach U (uv V 0 16 0) x1 x2) (q_X1_reach U (uv V 0 16 0) x1 x2)) = 0 then gV_X1_reach U (uv V 0 16 0) x1 x2 else (if ((gV_X1_reach U (uv V 0 16 0) x1 x2) 4 (ix (q_X1_reach U (uv V 0 16 0) x1 x2))) = ((-1)) then gV_X1_reach U (uv V 0 16 0) x1 x2 else (if (q_X1_coveringVolume (gV_X1_reach U (uv V 0 16 0) x1 x2) (q_X1_reach U (uv V 0 16 0) x1 x2)) < 0 then gV_X1_reach U (uv V 0 16 0) x1 x2 else (if (q_X1_coveringVolume (gV_X1_reach U (uv V 0 16 0) x1 x2) (q_X1_reach U (uv V 0 16 0) x1 x2)) < 3 then gV_X1_comeTo (gV_X1_reach U (uv V 0 16 0) x1 x2) ((gV_X1_reach U (uv V 0 16 0) x1 x2) 9 (ix (q_X1_coveringVolume (gV_X1_reach U (uv V 0 16 0) x1 x2) (q_X1_reach U (uv V 0 16 0) x1 x2)))) else gV_X1_reach U (uv V 0 16 0) x1 x2)))))))
theorem s_X1_stepFrom {J : MJ} {n m : Nat} (hN : NodL J n) (hM : MemL J m n) (d_UV : n + 6 ≤ m ∨ m + 12 ≤ n) (X : MI) (U : NodV) (V : MemV) (x1 : Int32) (x2 : Int32) : M_X1_stepFrom [mR (some m), mI x1, mI x2] (pt (pt X n U) m V, J) = some (some (mI (q_X1_stepFrom U V x1 x2)), (pt (pt X n U) m (gV_X1_stepFrom U V x1 x2), J)) := by
  generalize hR : some (some (mI (q_X1_stepFrom U V x1 x2)), (pt (pt X n U) m (gV_X1_stepFrom U V x1 x2), J)) = R
  rw [E_X1_stepFrom]
  unfold q_X1_stepFrom gV_X1_stepFrom at hR
  try rewrite [wI_ok 16 _ hM.k]
  try rewrite [Option.bind_some]
  try rewrite [u12_0]
  by_cases h1 : x2 = ((-1))
  · rewrite [if_pos h1]; simp only [if_pos h1] at hR
    exact hR
  · rewrite [if_neg h1]; simp only [if_neg h1] at hR
    by_cases h2 : x2 = ((-2))
    · rewrite [if_pos h2]; simp only [if_pos h2] at hR
      try simp only [Option.bind_some]
      rewrite [if_pos (show kd (pt (pt X n U) m (uv V 0 16 0), J) m = 1 from hM.k)]
      rewrite [s_X1_stepUp hM]
      simp only [Option.bind_some, asI_I]
      exact hR
    · rewrite [if_neg h2]; simp only [if_neg h2] at hR
      try simp only [Option.bind_some]
      rewrite [if_pos (show kd (pt (pt X n U) m (uv V 0 16 0), J) m = 1 from hM.k)]
      rewrite [s_X1_isFolder hN hM d_UV]
      simp only [Option.bind_some, asI_I]
      by_cases h3 : (q_X1_isFolder U (uv V 0 16 0) x1) = 0
      · rewrite [if_pos h3]; simp only [if_pos h3] at hR
        exact hR
      · rewrite [if_neg h3]; simp only [if_neg h3] at hR
        try simp only [Option.bind_some]
        rewrite [if_pos (show kd (pt (pt X n U) m (uv V 0 16 0), J) m = 1 from hM.k)]
        rewrite [s_X1_reach hN hM d_UV]
        simp only [Option.bind_some, asI_I]
        try simp only [Option.bind_some]
        rewrite [if_pos (show kd (pt (pt X n U) m (gV_X1_reach U (uv V 0 16 0) x1 x2), J) m = 1 from hM.k)]
        rewrite [s_X1_isEntry hM]
        simp only [Option.bind_some, asI_I]
        by_cases h4 : (q_X1_isEntry (gV_X1_reach U (uv V 0 16 0) x1 x2) (q_X1_reach U (uv V 0 16 0) x1 x2)) = 0
        · rewrite [if_pos h4]; simp only [if_pos h4] at hR
          exact hR
        · rewrite [if_neg h4]; simp only [if_neg h4] at hR
          try rewrite [fR_ok 4 hM.k]
          try rewrite [Option.bind_some]
          try rewrite [hM.r4]
          try simp only [Option.bind_some]
          try rewrite [ld_ok _ hM.s4 (b_X1_isEntry_0 h4)]
          try rewrite [Option.bind_some]
          try rewrite [p12_4]
          by_cases h5 : ((gV_X1_reach U (uv V 0 16 0) x1 x2) 4 (ix (q_X1_reach U (uv V 0 16 0) x1 x2))) = ((-1))
          · rewrite [if_pos h5]; simp only [if_pos h5] at hR
            exact hR
          · rewrite [if_neg h5]; simp only [if_neg h5] at hR
            try simp only [Option.bind_some]
            rewrite [if_pos (show kd (pt (pt X n U) m (gV_X1_reach U (uv V 0 16 0) x1 x2), J) m = 1 from hM.k)]
            rewrite [s_X1_coveringVolume hM]
            simp only [Option.bind_some, asI_I]
            by_cases h6 : (q_X1_coveringVolume (gV_X1_reach U (uv V 0 16 0) x1 x2) (q_X1_reach U (uv V 0 16 0) x1 x2)) < 0
            · rewrite [if_pos h6]; simp only [if_pos h6] at hR
              exact hR
            · rewrite [if_neg h6]; simp only [if_neg h6] at hR
              by_cases h7 : (q_X1_coveringVolume (gV_X1_reach U (uv V 0 16 0) x1 x2) (q_X1_reach U (uv V 0 16 0) x1 x2)) < 3
              · rewrite [if_pos h7]; simp only [if_pos h7] at hR
                try rewrite [fR_ok 9 hM.k]
                try rewrite [Option.bind_some]
                try rewrite [hM.r9]
                try simp only [Option.bind_some]
                try rewrite [ld_ok _ hM.s9 (inb_of rfl h6 (Int32.not_le.mpr h7))]
                try rewrite [Option.bind_some]
                try rewrite [p12_9]
                try simp only [Option.bind_some]
                rewrite [if_pos (show kd (pt (pt X n U) m (gV_X1_reach U (uv V 0 16 0) x1 x2), J) m = 1 from hM.k)]
                rewrite [s_X1_comeTo hM]
                simp only [Option.bind_some, asV_n]
                try rewrite [fR_ok 9 hM.k]
                try rewrite [Option.bind_some]
                try rewrite [hM.r9]
                try simp only [Option.bind_some]
                try rewrite [ld_ok _ hM.s9 (inb_of rfl h6 (Int32.not_le.mpr h7))]
                try rewrite [Option.bind_some]
                try rewrite [p12_9]
                exact hR
              · rewrite [if_neg h7]; simp only [if_neg h7] at hR
                exact hR
def q_X1_fill (U : NodV) (V : MemV) (x1 : Int32) (x2 : Int32) : Int32 := (if (q_X1_isAbsence V x1) = 0 then (-1) else q_X2_addIn U (q_X1_nodeOf V (V 2 (ix x1))) (V 3 (ix x1)) x2)
def gU_X1_fill (U : NodV) (V : MemV) (x1 : Int32) (x2 : Int32) : NodV := (if (q_X1_isAbsence V x1) = 0 then U else gU_X2_addIn U (q_X1_nodeOf V (V 2 (ix x1))) (V 3 (ix x1)) x2)
def gV_X1_fill (U : NodV) (V : MemV) (x1 : Int32) (x2 : Int32) : MemV := (if (q_X1_isAbsence V x1) = 0 then V else uv (uv V 4 (ix x1) (q_X2_addIn U (q_X1_nodeOf V (V 2 (ix x1))) (V 3 (ix x1)) x2)) 6 (ix x1) ((V 6 (ix x1)) + 1))
theorem s_X1_fill {J : MJ} {n m : Nat} (hN : NodL J n) (hM : MemL J m n) (d_UV : n + 6 ≤ m ∨ m + 12 ≤ n) (X : MI) (U : NodV) (V : MemV) (x1 : Int32) (x2 : Int32) : M_X1_fill [mR (some m), mI x1, mI x2] (pt (pt X n U) m V, J) = some (some (mI (q_X1_fill U V x1 x2)), (pt (pt X n (gU_X1_fill U V x1 x2)) m (gV_X1_fill U V x1 x2), J)) := by
  generalize hR : some (some (mI (q_X1_fill U V x1 x2)), (pt (pt X n (gU_X1_fill U V x1 x2)) m (gV_X1_fill U V x1 x2), J)) = R
  rw [E_X1_fill]
  unfold q_X1_fill gU_X1_fill gV_X1_fill at hR
  try simp only [Option.bind_some]
  rewrite [if_pos (show kd (pt (pt X n U) m V, J) m = 1 from hM.k)]
  rewrite [s_X1_isAbsence hM]
  simp only [Option.bind_some, asI_I]
  by_cases h1 : (q_X1_isAbsence V x1) = 0
  · rewrite [if_pos h1]; simp only [if_pos h1] at hR
    exact hR
  · rewrite [if_neg h1]; simp only [if_neg h1] at hR
    try rewrite [fR_ok 4 hM.k]
    try rewrite [Option.bind_some]
    try rewrite [hM.r4]
    try rewrite [fR_ok 0 hM.k]
    try rewrite [Option.bind_some]
    try rewrite [hM.r0]
    try rewrite [fR_ok 2 hM.k]
    try rewrite [Option.bind_some]
    try rewrite [hM.r2]
    try simp only [Option.bind_some]
    try rewrite [ld_ok _ hM.s2 (b_X1_isAbsence_0 h1)]
    try rewrite [Option.bind_some]
    try rewrite [p12_2]
    try simp only [Option.bind_some]
    rewrite [if_pos (show kd (pt (pt X n U) m V, J) m = 1 from hM.k)]
    rewrite [s_X1_nodeOf hM]
    simp only [Option.bind_some, asI_I]
    try rewrite [fR_ok 3 hM.k]
    try rewrite [Option.bind_some]
    try rewrite [hM.r3]
    try simp only [Option.bind_some]
    try rewrite [ld_ok _ hM.s3 (b_X1_isAbsence_0 h1)]
    try rewrite [Option.bind_some]
    try rewrite [p12_3]
    try simp only [Option.bind_some]
    rewrite [if_pos (show kd (pt (pt X n U) m V, J) n = 2 from hN.k)]
    rw [pt_comm X U V d_UV]
    rw [s_X2_addIn hN]
    rw [pt_comm X V (gU_X2_addIn U (q_X1_nodeOf V (V 2 (ix x1))) (V 3 (ix x1)) x2) (Or.symm d_UV)]
    simp only [Option.bind_some, asI_I]
    try simp only [Option.bind_some]
    try rewrite [st_ok _ _ hM.s4 (b_X1_isAbsence_0 h1)]
    try rewrite [Option.bind_some]
    try rewrite [u12_4]
    try rewrite [fR_ok 6 hM.k]
    try rewrite [Option.bind_some]
    try rewrite [hM.r6]
    try simp only [Option.bind_some]
    try rewrite [ld_ok _ hM.s6 (b_X1_isAbsence_0 h1)]
    try rewrite [Option.bind_some]
    try rewrite [p12_6]
    try rewrite [uv_k _ _ _ _ _ (by decide)]
    try simp only [Option.bind_some]
    try rewrite [st_ok _ _ hM.s6 (b_X1_isAbsence_0 h1)]
    try rewrite [Option.bind_some]
    try rewrite [u12_6]
    try rewrite [fR_ok 4 hM.k]
    try rewrite [Option.bind_some]
    try rewrite [hM.r4]
    try simp only [Option.bind_some]
    try rewrite [ld_ok _ hM.s4 (b_X1_isAbsence_0 h1)]
    try rewrite [Option.bind_some]
    try rewrite [p12_4]
    try rewrite [uv_k _ _ _ _ _ (by decide)]
    try rewrite [uv_s]
    exact hR
theorem P_X1_empty {J : MJ} {m n : Nat} (hM : MemL J m n) (X : MI) (V : MemV) (x1 : Int32) : M_X1_empty [mR (some m), mI x1] (pt X m V, J) = (if (q_X1_isEntry V x1) = 0 then some (none, (pt X m V, J)) else Ev T_X1_empty 21 [some (mR (some m)), some (mI x1), some (mI 0)] [] (pt X m (uv V 6 (ix x1) ((V 6 (ix x1)) + 1)), J)) := by
  generalize hR : (if (q_X1_isEntry V x1) = 0 then some (none, (pt X m V, J)) else Ev T_X1_empty 21 [some (mR (some m)), some (mI x1), some (mI 0)] [] (pt X m (uv V 6 (ix x1) ((V 6 (ix x1)) + 1)), J)) = R
  rw [E_X1_empty]
  try simp only [Option.bind_some]
  rewrite [if_pos (show kd (pt X m V, J) m = 1 from hM.k)]
  rewrite [s_X1_isEntry hM]
  simp only [Option.bind_some, asI_I]
  by_cases h1 : (q_X1_isEntry V x1) = 0
  · rewrite [if_pos h1]; simp only [if_pos h1] at hR
    exact hR
  · rewrite [if_neg h1]; simp only [if_neg h1] at hR
    try rewrite [fR_ok 6 hM.k]
    try rewrite [Option.bind_some]
    try rewrite [hM.r6]
    try simp only [Option.bind_some]
    try rewrite [ld_ok _ hM.s6 (b_X1_isEntry_0 h1)]
    try rewrite [Option.bind_some]
    try rewrite [p12_6]
    try simp only [Option.bind_some]
    try rewrite [st_ok _ _ hM.s6 (b_X1_isEntry_0 h1)]
    try rewrite [Option.bind_some]
    try rewrite [u12_6]
    exact hR
theorem P_X1_empty_21 {J : MJ} {m n : Nat} (hM : MemL J m n) (X : MI) (V : MemV) (x1 : Int32) (x2 : Int32) (h_x2 : ¬ x2 < 0) (hb_x1 : inb x1 64) : Ev T_X1_empty 21 [some (mR (some m)), some (mI x1), some (mI x2)] [] (pt X m V, J) = (if (64 : Int32) ≤ x2 then (if (V 5 (ix x1)) = 0 then some (none, (pt X m (uv V 4 (ix x1) ((-1))), J)) else some (none, (pt X m (gV_X1_release (uv (uv V 1 (ix x1) 2) 2 (ix x1) ((-1))) (V 2 (ix x1))), J))) else (if (V 1 (ix x2)) = 0 then Ev T_X1_empty 21 [some (mR (some m)), some (mI x1), some (mI (x2 + 1))] [] (pt X m V, J) else (if (V 2 (ix x2)) = x1 then Ev T_X1_empty 21 [some (mR (some m)), some (mI x1), some (mI (x2 + 1))] [] (pt X m (gV_X1_drop V x2), J) else Ev T_X1_empty 21 [some (mR (some m)), some (mI x1), some (mI (x2 + 1))] [] (pt X m V, J)))) := by
  generalize hR : (if (64 : Int32) ≤ x2 then (if (V 5 (ix x1)) = 0 then some (none, (pt X m (uv V 4 (ix x1) ((-1))), J)) else some (none, (pt X m (gV_X1_release (uv (uv V 1 (ix x1) 2) 2 (ix x1) ((-1))) (V 2 (ix x1))), J))) else (if (V 1 (ix x2)) = 0 then Ev T_X1_empty 21 [some (mR (some m)), some (mI x1), some (mI (x2 + 1))] [] (pt X m V, J) else (if (V 2 (ix x2)) = x1 then Ev T_X1_empty 21 [some (mR (some m)), some (mI x1), some (mI (x2 + 1))] [] (pt X m (gV_X1_drop V x2), J) else Ev T_X1_empty 21 [some (mR (some m)), some (mI x1), some (mI (x2 + 1))] [] (pt X m V, J)))) = R
  rw [E_X1_empty_21]
  by_cases h1 : (64 : Int32) ≤ x2
  · rewrite [if_pos h1]; simp only [if_pos h1] at hR
    try rewrite [fR_ok 5 hM.k]
    try rewrite [Option.bind_some]
    try rewrite [hM.r5]
    try simp only [Option.bind_some]
    try rewrite [ld_ok _ hM.s5 hb_x1]
    try rewrite [Option.bind_some]
    try rewrite [p12_5]
    by_cases h2 : (V 5 (ix x1)) = 0
    · rewrite [if_pos h2]; simp only [if_pos h2] at hR
      try rewrite [fR_ok 4 hM.k]
      try rewrite [Option.bind_some]
      try rewrite [hM.r4]
      try simp only [Option.bind_some]
      try rewrite [st_ok _ _ hM.s4 hb_x1]
      try rewrite [Option.bind_some]
      try rewrite [u12_4]
      exact hR
    · rewrite [if_neg h2]; simp only [if_neg h2] at hR
      try rewrite [fR_ok 2 hM.k]
      try rewrite [Option.bind_some]
      try rewrite [hM.r2]
      try simp only [Option.bind_some]
      try rewrite [ld_ok _ hM.s2 hb_x1]
      try rewrite [Option.bind_some]
      try rewrite [p12_2]
      try rewrite [fR_ok 1 hM.k]
      try rewrite [Option.bind_some]
      try rewrite [hM.r1]
      try simp only [Option.bind_some]
      try rewrite [st_ok _ _ hM.s1 hb_x1]
      try rewrite [Option.bind_some]
      try rewrite [u12_1]
      try rewrite [fR_ok 2 hM.k]
      try rewrite [Option.bind_some]
      try rewrite [hM.r2]
      try simp only [Option.bind_some]
      try rewrite [st_ok _ _ hM.s2 hb_x1]
      try rewrite [Option.bind_some]
      try rewrite [u12_2]
      try simp only [Option.bind_some]
      rewrite [if_pos (show kd (pt X m (uv (uv V 1 (ix x1) 2) 2 (ix x1) ((-1))), J) m = 1 from hM.k)]
      rewrite [s_X1_release hM]
      simp only [Option.bind_some, asV_n]
      exact hR
  · rewrite [if_neg h1]; simp only [if_neg h1] at hR
    try rewrite [fR_ok 1 hM.k]
    try rewrite [Option.bind_some]
    try rewrite [hM.r1]
    try simp only [Option.bind_some]
    try rewrite [ld_ok _ hM.s1 (inb_of rfl h_x2 h1)]
    try rewrite [Option.bind_some]
    try rewrite [p12_1]
    by_cases h3 : (V 1 (ix x2)) = 0
    · rewrite [if_pos h3]; simp only [if_pos h3] at hR
      exact hR
    · rewrite [if_neg h3]; simp only [if_neg h3] at hR
      try rewrite [fR_ok 2 hM.k]
      try rewrite [Option.bind_some]
      try rewrite [hM.r2]
      try simp only [Option.bind_some]
      try rewrite [ld_ok _ hM.s2 (inb_of rfl h_x2 h1)]
      try rewrite [Option.bind_some]
      try rewrite [p12_2]
      by_cases h4 : (V 2 (ix x2)) = x1
      · rewrite [if_pos h4]; simp only [if_pos h4] at hR
        try simp only [Option.bind_some]
        rewrite [if_pos (show kd (pt X m V, J) m = 1 from hM.k)]
        rewrite [s_X1_drop hM]
        simp only [Option.bind_some, asV_n]
        exact hR
      · rewrite [if_neg h4]; simp only [if_neg h4] at hR
        exact hR
def lp_X1_empty_21 (x1 : Int32) : Nat → Nat → MemV → MemV
  | 0, k, V => (if (V 5 (ix x1)) = 0 then (uv V 4 (ix x1) ((-1))) else (gV_X1_release (uv (uv V 1 (ix x1) 2) 2 (ix x1) ((-1))) (V 2 (ix x1))))
  | nn + 1, k, V => (if (V 1 k) = 0 then lp_X1_empty_21 x1 nn (k + 1) V else (if (V 2 k) = x1 then lp_X1_empty_21 x1 nn (k + 1) (gV_X1_drop V (nI k)) else lp_X1_empty_21 x1 nn (k + 1) V))
theorem lr_X1_empty_21 {J : MJ} {m n : Nat} (hM : MemL J m n) (X : MI) (x1 : Int32) : ∀ (nn k : Nat) (V : MemV), k + nn = 64 → inb x1 64 → Ev T_X1_empty 21 [some (mR (some m)), some (mI x1), some (mI (nI k))] [] (pt X m V, J) = some (none, (pt X m ((lp_X1_empty_21 x1 nn k V)), J)) := by
  intro nn
  induction nn with
  | zero =>
    intro k V hk hb_x1
    have hk : k = 64 := by omega
    subst hk
    generalize hR : some (none, (pt X m ((lp_X1_empty_21 x1 0 64 V)), J)) = R
    rw [lp_X1_empty_21] at hR
    rw [P_X1_empty_21 hM _ _ _ _ (nI_pos (by omega)) hb_x1, if_pos (show (64 : Int32) ≤ nI 64 from Int32.le_refl _)]
    by_cases k1 : (V 5 (ix x1)) = 0
    · rewrite [if_pos k1]; simp only [if_pos k1] at hR
      exact hR
    · rewrite [if_neg k1]; simp only [if_neg k1] at hR
      exact hR
  | succ nn ih =>
    intro k V hk hb_x1
    generalize hR : some (none, (pt X m ((lp_X1_empty_21 x1 (nn + 1) k V)), J)) = R
    rw [lp_X1_empty_21] at hR
    rw [P_X1_empty_21 hM _ _ _ _ (nI_pos (by omega)) hb_x1, if_neg (show ¬ (64 : Int32) ≤ nI k from nI_ge (show k < 64 by omega) (by decide))]
    try rw [ix_nI (by omega)]
    rw [nI_1 k]
    by_cases k1 : (V 1 k) = 0
    · rewrite [if_pos k1]; simp only [if_pos k1] at hR
      exact (ih (k + 1) _ (by omega) hb_x1).trans hR
    · rewrite [if_neg k1]; simp only [if_neg k1] at hR
      by_cases k2 : (V 2 k) = x1
      · rewrite [if_pos k2]; simp only [if_pos k2] at hR
        exact (ih (k + 1) _ (by omega) hb_x1).trans hR
      · rewrite [if_neg k2]; simp only [if_neg k2] at hR
        exact (ih (k + 1) _ (by omega) hb_x1).trans hR
def o_X1_empty (V : MemV) (x1 : Int32) : MemV := (if (q_X1_isEntry V x1) = 0 then (V) else lp_X1_empty_21 x1 64 0 (uv V 6 (ix x1) ((V 6 (ix x1)) + 1)))
def gV_X1_empty (V : MemV) (x1 : Int32) : MemV := (o_X1_empty V x1)
theorem s_X1_empty {J : MJ} {m n : Nat} (hM : MemL J m n) (X : MI) (V : MemV) (x1 : Int32) : M_X1_empty [mR (some m), mI x1] (pt X m V, J) = some (none, (pt X m ((gV_X1_empty V x1)), J)) := by
  generalize hR : some (none, (pt X m ((gV_X1_empty V x1)), J)) = R
  rw [P_X1_empty hM]
  unfold gV_X1_empty o_X1_empty at hR
  by_cases k1 : (q_X1_isEntry V x1) = 0
  · rewrite [if_pos k1]; simp only [if_pos k1] at hR
    exact hR
  · rewrite [if_neg k1]; simp only [if_neg k1] at hR
    exact (lr_X1_empty_21 hM X _ _ 0 _ (by omega) (b_X1_isEntry_0 k1)).trans hR
def gV_X1_move (V : MemV) (x1 : Int32) (x2 : Int32) (x3 : Int32) : MemV := (if (q_X1_isEntry V x1) = 0 then V else (if (q_X1_isEntry V x2) = 0 then V else gV_X1_release (gV_X1_hold (uv (uv (uv V 2 (ix x1) x2) 3 (ix x1) x3) 6 (ix x1) ((V 6 (ix x1)) + 1)) x2) (V 2 (ix x1))))
theorem s_X1_move {J : MJ} {m n : Nat} (hM : MemL J m n) (X : MI) (V : MemV) (x1 : Int32) (x2 : Int32) (x3 : Int32) : M_X1_move [mR (some m), mI x1, mI x2, mI x3] (pt X m V, J) = some (none, (pt X m (gV_X1_move V x1 x2 x3), J)) := by
  generalize hR : some (none, (pt X m (gV_X1_move V x1 x2 x3), J)) = R
  rw [E_X1_move]
  unfold gV_X1_move at hR
  try simp only [Option.bind_some]
  rewrite [if_pos (show kd (pt X m V, J) m = 1 from hM.k)]
  rewrite [s_X1_isEntry hM]
  simp only [Option.bind_some, asI_I]
  by_cases h1 : (q_X1_isEntry V x1) = 0
  · rewrite [if_pos h1]; simp only [if_pos h1] at hR
    exact hR
  · rewrite [if_neg h1]; simp only [if_neg h1] at hR
    try simp only [Option.bind_some]
    rewrite [if_pos (show kd (pt X m V, J) m = 1 from hM.k)]
    rewrite [s_X1_isEntry hM]
    simp only [Option.bind_some, asI_I]
    by_cases h2 : (q_X1_isEntry V x2) = 0
    · rewrite [if_pos h2]; simp only [if_pos h2] at hR
      exact hR
    · rewrite [if_neg h2]; simp only [if_neg h2] at hR
      try rewrite [fR_ok 2 hM.k]
      try rewrite [Option.bind_some]
      try rewrite [hM.r2]
      try simp only [Option.bind_some]
      try rewrite [ld_ok _ hM.s2 (b_X1_isEntry_0 h1)]
      try rewrite [Option.bind_some]
      try rewrite [p12_2]
      try rewrite [fR_ok 2 hM.k]
      try rewrite [Option.bind_some]
      try rewrite [hM.r2]
      try simp only [Option.bind_some]
      try rewrite [st_ok _ _ hM.s2 (b_X1_isEntry_0 h1)]
      try rewrite [Option.bind_some]
      try rewrite [u12_2]
      try rewrite [fR_ok 3 hM.k]
      try rewrite [Option.bind_some]
      try rewrite [hM.r3]
      try simp only [Option.bind_some]
      try rewrite [st_ok _ _ hM.s3 (b_X1_isEntry_0 h1)]
      try rewrite [Option.bind_some]
      try rewrite [u12_3]
      try rewrite [fR_ok 6 hM.k]
      try rewrite [Option.bind_some]
      try rewrite [hM.r6]
      try simp only [Option.bind_some]
      try rewrite [ld_ok _ hM.s6 (b_X1_isEntry_0 h1)]
      try rewrite [Option.bind_some]
      try rewrite [p12_6]
      try rewrite [uv_k _ _ _ _ _ (by decide)]
      try rewrite [uv_k _ _ _ _ _ (by decide)]
      try simp only [Option.bind_some]
      try rewrite [st_ok _ _ hM.s6 (b_X1_isEntry_0 h1)]
      try rewrite [Option.bind_some]
      try rewrite [u12_6]
      try simp only [Option.bind_some]
      rewrite [if_pos (show kd (pt X m (uv (uv (uv V 2 (ix x1) x2) 3 (ix x1) x3) 6 (ix x1) ((V 6 (ix x1)) + 1)), J) m = 1 from hM.k)]
      rewrite [s_X1_hold hM]
      simp only [Option.bind_some, asV_n]
      try simp only [Option.bind_some]
      rewrite [if_pos (show kd (pt X m (gV_X1_hold (uv (uv (uv V 2 (ix x1) x2) 3 (ix x1) x3) 6 (ix x1) ((V 6 (ix x1)) + 1)) x2), J) m = 1 from hM.k)]
      rewrite [s_X1_release hM]
      simp only [Option.bind_some, asV_n]
      exact hR
theorem P_X1_isWithin {J : MJ} {m n : Nat} (hM : MemL J m n) (X : MI) (V : MemV) (x1 : Int32) (x2 : Int32) : M_X1_isWithin [mR (some m), mI x1, mI x2] (pt X m V, J) = Ev T_X1_isWithin 5 [some (mR (some m)), none, some (mI x2), some (mI x1), some (mI 0)] [] (pt X m V, J) := by
  generalize hR : Ev T_X1_isWithin 5 [some (mR (some m)), none, some (mI x2), some (mI x1), some (mI 0)] [] (pt X m V, J) = R
  rw [E_X1_isWithin]
  exact hR
theorem P_X1_isWithin_5 {J : MJ} {m n : Nat} (hM : MemL J m n) (X : MI) (V : MemV) (x2 : Int32) (x3 : Int32) (x4 : Int32) : Ev T_X1_isWithin 5 [some (mR (some m)), none, some (mI x2), some (mI x3), some (mI x4)] [] (pt X m V, J) = (if (64 : Int32) ≤ x4 then some (some (mI 0), (pt X m V, J)) else (if (q_X1_isEntry V x3) = 0 then some (some (mI 0), (pt X m V, J)) else (if x3 = x2 then some (some (mI 1), (pt X m V, J)) else Ev T_X1_isWithin 5 [some (mR (some m)), none, some (mI x2), some (mI (V 2 (ix x3))), some (mI (x4 + 1))] [] (pt X m V, J)))) := by
  generalize hR : (if (64 : Int32) ≤ x4 then some (some (mI 0), (pt X m V, J)) else (if (q_X1_isEntry V x3) = 0 then some (some (mI 0), (pt X m V, J)) else (if x3 = x2 then some (some (mI 1), (pt X m V, J)) else Ev T_X1_isWithin 5 [some (mR (some m)), none, some (mI x2), some (mI (V 2 (ix x3))), some (mI (x4 + 1))] [] (pt X m V, J)))) = R
  rw [E_X1_isWithin_5]
  by_cases h1 : (64 : Int32) ≤ x4
  · rewrite [if_pos h1]; simp only [if_pos h1] at hR
    first | exact hR | (simp only [if_pos (show (0 : Int32) = 0 ∨ (0 : Int32) = 1 by decide), if_pos (show (1 : Int32) = 0 ∨ (1 : Int32) = 1 by decide)]; exact hR) | (simp; exact hR)
  · rewrite [if_neg h1]; simp only [if_neg h1] at hR
    try simp only [Option.bind_some]
    rewrite [if_pos (show kd (pt X m V, J) m = 1 from hM.k)]
    rewrite [s_X1_isEntry hM]
    simp only [Option.bind_some, asI_I]
    by_cases h2 : (q_X1_isEntry V x3) = 0
    · rewrite [if_pos h2]; simp only [if_pos h2] at hR
      first | exact hR | (simp only [if_pos (show (0 : Int32) = 0 ∨ (0 : Int32) = 1 by decide), if_pos (show (1 : Int32) = 0 ∨ (1 : Int32) = 1 by decide)]; exact hR) | (simp; exact hR)
    · rewrite [if_neg h2]; simp only [if_neg h2] at hR
      by_cases h3 : x3 = x2
      · rewrite [if_pos h3]; simp only [if_pos h3] at hR
        first | exact hR | (simp only [if_pos (show (0 : Int32) = 0 ∨ (0 : Int32) = 1 by decide), if_pos (show (1 : Int32) = 0 ∨ (1 : Int32) = 1 by decide)]; exact hR) | (simp; exact hR)
      · rewrite [if_neg h3]; simp only [if_neg h3] at hR
        try rewrite [fR_ok 2 hM.k]
        try rewrite [Option.bind_some]
        try rewrite [hM.r2]
        try simp only [Option.bind_some]
        try rewrite [ld_ok _ hM.s2 (b_X1_isEntry_0 h2)]
        try rewrite [Option.bind_some]
        try rewrite [p12_2]
        exact hR
def lp_X1_isWithin_5 (V : MemV) (x2 : Int32) : Nat → Nat → Int32 → Int32
  | 0, k, x3 => (0)
  | nn + 1, k, x3 => (if (q_X1_isEntry V x3) = 0 then (0) else (if x3 = x2 then (1) else lp_X1_isWithin_5 V x2 nn (k + 1) (V 2 (ix x3))))
theorem lr_X1_isWithin_5 {J : MJ} {m n : Nat} (hM : MemL J m n) (X : MI) (V : MemV) (x2 : Int32) : ∀ (nn k : Nat) (x3 : Int32), k + nn = 64 → Ev T_X1_isWithin 5 [some (mR (some m)), none, some (mI x2), some (mI x3), some (mI (nI k))] [] (pt X m V, J) = some (some (mI ((lp_X1_isWithin_5 V x2 nn k x3))), (pt X m V, J)) := by
  intro nn
  induction nn with
  | zero =>
    intro k x3 hk
    have hk : k = 64 := by omega
    subst hk
    generalize hR : some (some (mI ((lp_X1_isWithin_5 V x2 0 64 x3))), (pt X m V, J)) = R
    rw [lp_X1_isWithin_5] at hR
    rw [P_X1_isWithin_5 hM _ _ _ _ _, if_pos (show (64 : Int32) ≤ nI 64 from Int32.le_refl _)]
    exact hR
  | succ nn ih =>
    intro k x3 hk
    generalize hR : some (some (mI ((lp_X1_isWithin_5 V x2 (nn + 1) k x3))), (pt X m V, J)) = R
    rw [lp_X1_isWithin_5] at hR
    rw [P_X1_isWithin_5 hM _ _ _ _ _, if_neg (show ¬ (64 : Int32) ≤ nI k from nI_ge (show k < 64 by omega) (by decide))]
    try rw [ix_nI (by omega)]
    rw [nI_1 k]
    by_cases k1 : (q_X1_isEntry V x3) = 0
    · rewrite [if_pos k1]; simp only [if_pos k1] at hR
      exact hR
    · rewrite [if_neg k1]; simp only [if_neg k1] at hR
      by_cases k2 : x3 = x2
      · rewrite [if_pos k2]; simp only [if_pos k2] at hR
        exact hR
      · rewrite [if_neg k2]; simp only [if_neg k2] at hR
        exact (ih (k + 1) _ (by omega)).trans hR
def o_X1_isWithin (V : MemV) (x1 : Int32) (x2 : Int32) : Int32 := lp_X1_isWithin_5 V x2 64 0 x1
def q_X1_isWithin (V : MemV) (x1 : Int32) (x2 : Int32) : Int32 := (o_X1_isWithin V x1 x2)
theorem s_X1_isWithin {J : MJ} {m n : Nat} (hM : MemL J m n) (X : MI) (V : MemV) (x1 : Int32) (x2 : Int32) : M_X1_isWithin [mR (some m), mI x1, mI x2] (pt X m V, J) = some (some (mI (q_X1_isWithin V x1 x2)), (pt X m V, J)) := by
  generalize hR : some (some (mI (q_X1_isWithin V x1 x2)), (pt X m V, J)) = R
  rw [P_X1_isWithin hM]
  unfold q_X1_isWithin o_X1_isWithin at hR
  exact (lr_X1_isWithin_5 hM X _ _ _ 0 _ (by omega)).trans hR
def q_X1_cover (U : NodV) (V : MemV) (x1 : Int32) (x2 : Int32) : Int32 := (if (q_X1_isEntry V x1) = 0 then (-1) else (if x2 < 0 then (-1) else (if x2 < 3 then q_X1_add (gV_X1_hold (uv (uv V 10 (ix x2) x1) 6 (ix x1) ((V 6 (ix x1)) + 1)) x1) ((-1)) 0 (q_X2_rootOf U x2) else (-1))))
def gV_X1_cover (U : NodV) (V : MemV) (x1 : Int32) (x2 : Int32) : MemV := (if (q_X1_isEntry V x1) = 0 then V else (if x2 < 0 then V else (if x2 < 3 then uv (gV_X1_add (gV_X1_hold (uv (uv V 10 (ix x2) x1) 6 (ix x1) ((V 6 (ix x1)) + 1)) x1) ((-1)) 0 (q_X2_rootOf U x2)) 9 (ix x2) (q_X1_add (gV_X1_hold (uv (uv V 10 (ix x2) x1) 6 (ix x1) ((V 6 (ix x1)) + 1)) x1) ((-1)) 0 (q_X2_rootOf U x2)) else V)))
theorem s_X1_cover {J : MJ} {n m : Nat} (hN : NodL J n) (hM : MemL J m n) (d_UV : n + 6 ≤ m ∨ m + 12 ≤ n) (X : MI) (U : NodV) (V : MemV) (x1 : Int32) (x2 : Int32) : M_X1_cover [mR (some m), mI x1, mI x2] (pt (pt X n U) m V, J) = some (some (mI (q_X1_cover U V x1 x2)), (pt (pt X n U) m (gV_X1_cover U V x1 x2), J)) := by
  generalize hR : some (some (mI (q_X1_cover U V x1 x2)), (pt (pt X n U) m (gV_X1_cover U V x1 x2), J)) = R
  rw [E_X1_cover]
  unfold q_X1_cover gV_X1_cover at hR
  try simp only [Option.bind_some]
  rewrite [if_pos (show kd (pt (pt X n U) m V, J) m = 1 from hM.k)]
  rewrite [s_X1_isEntry hM]
  simp only [Option.bind_some, asI_I]
  by_cases h1 : (q_X1_isEntry V x1) = 0
  · rewrite [if_pos h1]; simp only [if_pos h1] at hR
    exact hR
  · rewrite [if_neg h1]; simp only [if_neg h1] at hR
    by_cases h2 : x2 < 0
    · rewrite [if_pos h2]; simp only [if_pos h2] at hR
      exact hR
    · rewrite [if_neg h2]; simp only [if_neg h2] at hR
      by_cases h3 : x2 < 3
      · rewrite [if_pos h3]; simp only [if_pos h3] at hR
        try rewrite [fR_ok 10 hM.k]
        try rewrite [Option.bind_some]
        try rewrite [hM.r10]
        try simp only [Option.bind_some]
        try rewrite [st_ok _ _ hM.s10 (inb_of rfl h2 (Int32.not_le.mpr h3))]
        try rewrite [Option.bind_some]
        try rewrite [u12_10]
        try rewrite [fR_ok 6 hM.k]
        try rewrite [Option.bind_some]
        try rewrite [hM.r6]
        try simp only [Option.bind_some]
        try rewrite [ld_ok _ hM.s6 (b_X1_isEntry_0 h1)]
        try rewrite [Option.bind_some]
        try rewrite [p12_6]
        try rewrite [uv_k _ _ _ _ _ (by decide)]
        try simp only [Option.bind_some]
        try rewrite [st_ok _ _ hM.s6 (b_X1_isEntry_0 h1)]
        try rewrite [Option.bind_some]
        try rewrite [u12_6]
        try simp only [Option.bind_some]
        rewrite [if_pos (show kd (pt (pt X n U) m (uv (uv V 10 (ix x2) x1) 6 (ix x1) ((V 6 (ix x1)) + 1)), J) m = 1 from hM.k)]
        rewrite [s_X1_hold hM]
        simp only [Option.bind_some, asV_n]
        try rewrite [fR_ok 9 hM.k]
        try rewrite [Option.bind_some]
        try rewrite [hM.r9]
        try rewrite [fR_ok 0 hM.k]
        try rewrite [Option.bind_some]
        try rewrite [hM.r0]
        try simp only [Option.bind_some]
        rewrite [if_pos (show kd (pt (pt X n U) m (gV_X1_hold (uv (uv V 10 (ix x2) x1) 6 (ix x1) ((V 6 (ix x1)) + 1)) x1), J) n = 2 from hN.k)]
        rw [pt_comm X U (gV_X1_hold (uv (uv V 10 (ix x2) x1) 6 (ix x1) ((V 6 (ix x1)) + 1)) x1) d_UV]
        rw [s_X2_rootOf hN]
        rw [pt_comm X (gV_X1_hold (uv (uv V 10 (ix x2) x1) 6 (ix x1) ((V 6 (ix x1)) + 1)) x1) U (Or.symm d_UV)]
        simp only [Option.bind_some, asI_I]
        try simp only [Option.bind_some]
        rewrite [if_pos (show kd (pt (pt X n U) m (gV_X1_hold (uv (uv V 10 (ix x2) x1) 6 (ix x1) ((V 6 (ix x1)) + 1)) x1), J) m = 1 from hM.k)]
        rewrite [s_X1_add hM]
        simp only [Option.bind_some, asI_I]
        try simp only [Option.bind_some]
        try rewrite [st_ok _ _ hM.s9 (inb_of rfl h2 (Int32.not_le.mpr h3))]
        try rewrite [Option.bind_some]
        try rewrite [u12_9]
        try rewrite [fR_ok 9 hM.k]
        try rewrite [Option.bind_some]
        try rewrite [hM.r9]
        try simp only [Option.bind_some]
        try rewrite [ld_ok _ hM.s9 (inb_of rfl h2 (Int32.not_le.mpr h3))]
        try rewrite [Option.bind_some]
        try rewrite [p12_9]
        try rewrite [uv_s]
        exact hR
      · rewrite [if_neg h3]; simp only [if_neg h3] at hR
        exact hR
def q_X1_isOf (U : NodV) (V : MemV) (x1 : Int32) (x2 : Int32) : Int32 := (if (q_X1_isEntry V x1) = 0 then 0 else (if (V 4 (ix x1)) = ((-1)) then (if (q_X2_volumeOf U (q_X1_nodeOf V (V 2 (ix x1)))) = x2 then 1 else 0) else (if (q_X2_volumeOf U (V 4 (ix x1))) = x2 then 1 else 0)))
theorem s_X1_isOf {J : MJ} {n m : Nat} (hN : NodL J n) (hM : MemL J m n) (d_UV : n + 6 ≤ m ∨ m + 12 ≤ n) (X : MI) (U : NodV) (V : MemV) (x1 : Int32) (x2 : Int32) : M_X1_isOf [mR (some m), mI x1, mI x2] (pt (pt X n U) m V, J) = some (some (mI (q_X1_isOf U V x1 x2)), (pt (pt X n U) m V, J)) := by
  generalize hR : some (some (mI (q_X1_isOf U V x1 x2)), (pt (pt X n U) m V, J)) = R
  rw [E_X1_isOf]
  unfold q_X1_isOf at hR
  try simp only [Option.bind_some]
  rewrite [if_pos (show kd (pt (pt X n U) m V, J) m = 1 from hM.k)]
  rewrite [s_X1_isEntry hM]
  simp only [Option.bind_some, asI_I]
  by_cases h1 : (q_X1_isEntry V x1) = 0
  · rewrite [if_pos h1]; simp only [if_pos h1] at hR
    first | exact hR | (simp only [if_pos (show (0 : Int32) = 0 ∨ (0 : Int32) = 1 by decide), if_pos (show (1 : Int32) = 0 ∨ (1 : Int32) = 1 by decide)]; exact hR) | (simp; exact hR)
  · rewrite [if_neg h1]; simp only [if_neg h1] at hR
    try rewrite [fR_ok 4 hM.k]
    try rewrite [Option.bind_some]
    try rewrite [hM.r4]
    try simp only [Option.bind_some]
    try rewrite [ld_ok _ hM.s4 (b_X1_isEntry_0 h1)]
    try rewrite [Option.bind_some]
    try rewrite [p12_4]
    by_cases h2 : (V 4 (ix x1)) = ((-1))
    · rewrite [if_pos h2]; simp only [if_pos h2] at hR
      try rewrite [fR_ok 2 hM.k]
      try rewrite [Option.bind_some]
      try rewrite [hM.r2]
      try simp only [Option.bind_some]
      try rewrite [ld_ok _ hM.s2 (b_X1_isEntry_0 h1)]
      try rewrite [Option.bind_some]
      try rewrite [p12_2]
      try simp only [Option.bind_some]
      rewrite [if_pos (show kd (pt (pt X n U) m V, J) m = 1 from hM.k)]
      rewrite [s_X1_nodeOf hM]
      simp only [Option.bind_some, asI_I]
      try rewrite [fR_ok 0 hM.k]
      try rewrite [Option.bind_some]
      try rewrite [hM.r0]
      try simp only [Option.bind_some]
      rewrite [if_pos (show kd (pt (pt X n U) m V, J) n = 2 from hN.k)]
      rw [pt_comm X U V d_UV]
      rw [s_X2_volumeOf hN]
      rw [pt_comm X V U (Or.symm d_UV)]
      simp only [Option.bind_some, asI_I]
      by_cases h3 : (q_X2_volumeOf U (q_X1_nodeOf V (V 2 (ix x1)))) = x2
      · rewrite [if_pos h3]; simp only [if_pos h3] at hR
        first | exact hR | (simp only [if_pos (show (0 : Int32) = 0 ∨ (0 : Int32) = 1 by decide), if_pos (show (1 : Int32) = 0 ∨ (1 : Int32) = 1 by decide)]; exact hR) | (simp; exact hR)
      · rewrite [if_neg h3]; simp only [if_neg h3] at hR
        first | exact hR | (simp only [if_pos (show (0 : Int32) = 0 ∨ (0 : Int32) = 1 by decide), if_pos (show (1 : Int32) = 0 ∨ (1 : Int32) = 1 by decide)]; exact hR) | (simp; exact hR)
    · rewrite [if_neg h2]; simp only [if_neg h2] at hR
      try rewrite [fR_ok 4 hM.k]
      try rewrite [Option.bind_some]
      try rewrite [hM.r4]
      try simp only [Option.bind_some]
      try rewrite [ld_ok _ hM.s4 (b_X1_isEntry_0 h1)]
      try rewrite [Option.bind_some]
      try rewrite [p12_4]
      try rewrite [fR_ok 0 hM.k]
      try rewrite [Option.bind_some]
      try rewrite [hM.r0]
      try simp only [Option.bind_some]
      rewrite [if_pos (show kd (pt (pt X n U) m V, J) n = 2 from hN.k)]
      rw [pt_comm X U V d_UV]
      rw [s_X2_volumeOf hN]
      rw [pt_comm X V U (Or.symm d_UV)]
      simp only [Option.bind_some, asI_I]
      by_cases h4 : (q_X2_volumeOf U (V 4 (ix x1))) = x2
      · rewrite [if_pos h4]; simp only [if_pos h4] at hR
        first | exact hR | (simp only [if_pos (show (0 : Int32) = 0 ∨ (0 : Int32) = 1 by decide), if_pos (show (1 : Int32) = 0 ∨ (1 : Int32) = 1 by decide)]; exact hR) | (simp; exact hR)
      · rewrite [if_neg h4]; simp only [if_neg h4] at hR
        first | exact hR | (simp only [if_pos (show (0 : Int32) = 0 ∨ (0 : Int32) = 1 by decide), if_pos (show (1 : Int32) = 0 ∨ (1 : Int32) = 1 by decide)]; exact hR) | (simp; exact hR)
theorem b_X1_isOf_0 {U : NodV} {V : MemV} {x1 : Int32} {x2 : Int32} (h : ¬ q_X1_isOf U V x1 x2 = 0) : inb x1 64 := by
  unfold q_X1_isOf at h
  by_cases k1 : (q_X1_isEntry V x1) = 0
  · simp only [if_pos k1] at h
    first | exact absurd rfl h | exact absurd trivial h
  · simp only [if_neg k1] at h
    by_cases k2 : (V 4 (ix x1)) = ((-1))
    · simp only [if_pos k2] at h
      by_cases k3 : (q_X2_volumeOf U (q_X1_nodeOf V (V 2 (ix x1)))) = x2
      · simp only [if_pos k3] at h
        exact (b_X1_isEntry_0 k1)
      · simp only [if_neg k3] at h
        first | exact absurd rfl h | exact absurd trivial h
    · simp only [if_neg k2] at h
      by_cases k3 : (q_X2_volumeOf U (V 4 (ix x1))) = x2
      · simp only [if_pos k3] at h
        exact (b_X1_isEntry_0 k1)
      · simp only [if_neg k3] at h
        first | exact absurd rfl h | exact absurd trivial h
theorem P_X1_heldBelow {J : MJ} {m n : Nat} (hM : MemL J m n) (X : MI) (V : MemV) (x1 : Int32) : M_X1_heldBelow [mR (some m), mI x1] (pt X m V, J) = Ev T_X1_heldBelow 4 [some (mR (some m)), some (mI x1), some (mI 0), some (mI 0)] [] (pt X m V, J) := by
  generalize hR : Ev T_X1_heldBelow 4 [some (mR (some m)), some (mI x1), some (mI 0), some (mI 0)] [] (pt X m V, J) = R
  rw [E_X1_heldBelow]
  exact hR
theorem P_X1_heldBelow_4 {J : MJ} {m n : Nat} (hM : MemL J m n) (X : MI) (V : MemV) (x1 : Int32) (x2 : Int32) (x3 : Int32) (h_x3 : ¬ x3 < 0) : Ev T_X1_heldBelow 4 [some (mR (some m)), some (mI x1), some (mI x2), some (mI x3)] [] (pt X m V, J) = (if (64 : Int32) ≤ x3 then some (some (mI x2), (pt X m V, J)) else (if (V 1 (ix x3)) = 0 then Ev T_X1_heldBelow 4 [some (mR (some m)), some (mI x1), some (mI x2), some (mI (x3 + 1))] [] (pt X m V, J) else (if (V 2 (ix x3)) = x1 then Ev T_X1_heldBelow 4 [some (mR (some m)), some (mI x1), some (mI (x2 + 1)), some (mI (x3 + 1))] [] (pt X m V, J) else Ev T_X1_heldBelow 4 [some (mR (some m)), some (mI x1), some (mI x2), some (mI (x3 + 1))] [] (pt X m V, J)))) := by
  generalize hR : (if (64 : Int32) ≤ x3 then some (some (mI x2), (pt X m V, J)) else (if (V 1 (ix x3)) = 0 then Ev T_X1_heldBelow 4 [some (mR (some m)), some (mI x1), some (mI x2), some (mI (x3 + 1))] [] (pt X m V, J) else (if (V 2 (ix x3)) = x1 then Ev T_X1_heldBelow 4 [some (mR (some m)), some (mI x1), some (mI (x2 + 1)), some (mI (x3 + 1))] [] (pt X m V, J) else Ev T_X1_heldBelow 4 [some (mR (some m)), some (mI x1), some (mI x2), some (mI (x3 + 1))] [] (pt X m V, J)))) = R
  rw [E_X1_heldBelow_4]
  by_cases h1 : (64 : Int32) ≤ x3
  · rewrite [if_pos h1]; simp only [if_pos h1] at hR
    exact hR
  · rewrite [if_neg h1]; simp only [if_neg h1] at hR
    try rewrite [fR_ok 1 hM.k]
    try rewrite [Option.bind_some]
    try rewrite [hM.r1]
    try simp only [Option.bind_some]
    try rewrite [ld_ok _ hM.s1 (inb_of rfl h_x3 h1)]
    try rewrite [Option.bind_some]
    try rewrite [p12_1]
    by_cases h2 : (V 1 (ix x3)) = 0
    · rewrite [if_pos h2]; simp only [if_pos h2] at hR
      exact hR
    · rewrite [if_neg h2]; simp only [if_neg h2] at hR
      try rewrite [fR_ok 2 hM.k]
      try rewrite [Option.bind_some]
      try rewrite [hM.r2]
      try simp only [Option.bind_some]
      try rewrite [ld_ok _ hM.s2 (inb_of rfl h_x3 h1)]
      try rewrite [Option.bind_some]
      try rewrite [p12_2]
      by_cases h3 : (V 2 (ix x3)) = x1
      · rewrite [if_pos h3]; simp only [if_pos h3] at hR
        exact hR
      · rewrite [if_neg h3]; simp only [if_neg h3] at hR
        exact hR
def c_X1_heldBelow (V : MemV) (x1 : Int32) : Nat := cnt (fun k => (if (V 1 k) = 0 then false else (if (V 2 k) = x1 then true else false))) 0 64
def ql_X1_heldBelow (V : MemV) (x1 : Int32) : Int32 := nI (c_X1_heldBelow V x1)
theorem l_X1_heldBelow {J : MJ} {m n : Nat} (hM : MemL J m n) (X : MI) (V : MemV) (x1 : Int32) : Ev T_X1_heldBelow 4 [some (mR (some m)), some (mI x1), some (mI 0), some (mI 0)] [] (pt X m V, J) = some (some (mI (ql_X1_heldBelow V x1)), (pt X m V, J)) := by
  have step := loop_cnt (fun k c => Ev T_X1_heldBelow 4 [some (mR (some m)), some (mI x1), some (mI (nI c)), some (mI (nI k))] [] (pt X m V, J)) (fun k => (if (V 1 k) = 0 then false else (if (V 2 k) = x1 then true else false))) 64 (fun k c hk => by
    try dsimp only
    rw [P_X1_heldBelow_4 hM _ _ _ _ _ (nI_pos (by omega)), if_neg (show ¬ (64 : Int32) ≤ nI k from nI_ge hk (by decide))]
    try rw [ix_nI (by omega)]
    rw [nI_1 k]
    by_cases k1 : (V 1 k) = 0
    ·
      simp [k1, nI_1]
    ·
      by_cases k2 : (V 2 k) = x1
      ·
        simp [k1, k2, nI_1]
      ·
        simp [k1, k2, nI_1]) 64 0 0 (by omega)
  have h0 : (nI 0) = 0 := rfl
  try dsimp only at step
  rw [h0] at step
  rw [step, P_X1_heldBelow_4 hM _ _ _ _ _ (nI_pos (by omega)), if_pos (show (64 : Int32) ≤ nI 64 from Int32.le_refl _), Nat.zero_add]
  rfl
def q_X1_heldBelow (V : MemV) (x1 : Int32) : Int32 := ql_X1_heldBelow V x1
theorem s_X1_heldBelow {J : MJ} {m n : Nat} (hM : MemL J m n) (X : MI) (V : MemV) (x1 : Int32) : M_X1_heldBelow [mR (some m), mI x1] (pt X m V, J) = some (some (mI (q_X1_heldBelow V x1)), (pt X m V, J)) := by
  rw [P_X1_heldBelow hM]
  unfold q_X1_heldBelow
  exact l_X1_heldBelow hM _ _ _
theorem P_X1_isBusy {J : MJ} {n m : Nat} (hN : NodL J n) (hM : MemL J m n) (d_UV : n + 6 ≤ m ∨ m + 12 ≤ n) (X : MI) (U : NodV) (V : MemV) (x1 : Int32) : M_X1_isBusy [mR (some m), mI x1] (pt (pt X n U) m V, J) = Ev T_X1_isBusy 2 [some (mR (some m)), some (mI x1), some (mI 0)] [] (pt (pt X n U) m V, J) := by
  generalize hR : Ev T_X1_isBusy 2 [some (mR (some m)), some (mI x1), some (mI 0)] [] (pt (pt X n U) m V, J) = R
  rw [E_X1_isBusy]
  exact hR
theorem P_X1_isBusy_2 {J : MJ} {n m : Nat} (hN : NodL J n) (hM : MemL J m n) (d_UV : n + 6 ≤ m ∨ m + 12 ≤ n) (X : MI) (U : NodV) (V : MemV) (x1 : Int32) (x2 : Int32) : Ev T_X1_isBusy 2 [some (mR (some m)), some (mI x1), some (mI x2)] [] (pt (pt X n U) m V, J) = (if (64 : Int32) ≤ x2 then some (some (mI 0), (pt (pt X n U) m V, J)) else (if (q_X1_isOf U V x2 x1) = 0 then Ev T_X1_isBusy 2 [some (mR (some m)), some (mI x1), some (mI (x2 + 1))] [] (pt (pt X n U) m V, J) else (if (V 5 (ix x2)) ≤ (q_X1_heldBelow V x2) then Ev T_X1_isBusy 2 [some (mR (some m)), some (mI x1), some (mI (x2 + 1))] [] (pt (pt X n U) m V, J) else some (some (mI 1), (pt (pt X n U) m V, J))))) := by
  generalize hR : (if (64 : Int32) ≤ x2 then some (some (mI 0), (pt (pt X n U) m V, J)) else (if (q_X1_isOf U V x2 x1) = 0 then Ev T_X1_isBusy 2 [some (mR (some m)), some (mI x1), some (mI (x2 + 1))] [] (pt (pt X n U) m V, J) else (if (V 5 (ix x2)) ≤ (q_X1_heldBelow V x2) then Ev T_X1_isBusy 2 [some (mR (some m)), some (mI x1), some (mI (x2 + 1))] [] (pt (pt X n U) m V, J) else some (some (mI 1), (pt (pt X n U) m V, J))))) = R
  rw [E_X1_isBusy_2]
  by_cases h1 : (64 : Int32) ≤ x2
  · rewrite [if_pos h1]; simp only [if_pos h1] at hR
    first | exact hR | (simp only [if_pos (show (0 : Int32) = 0 ∨ (0 : Int32) = 1 by decide), if_pos (show (1 : Int32) = 0 ∨ (1 : Int32) = 1 by decide)]; exact hR) | (simp; exact hR)
  · rewrite [if_neg h1]; simp only [if_neg h1] at hR
    try simp only [Option.bind_some]
    rewrite [if_pos (show kd (pt (pt X n U) m V, J) m = 1 from hM.k)]
    rewrite [s_X1_isOf hN hM d_UV]
    simp only [Option.bind_some, asI_I]
    by_cases h2 : (q_X1_isOf U V x2 x1) = 0
    · rewrite [if_pos h2]; simp only [if_pos h2] at hR
      exact hR
    · rewrite [if_neg h2]; simp only [if_neg h2] at hR
      try rewrite [fR_ok 5 hM.k]
      try rewrite [Option.bind_some]
      try rewrite [hM.r5]
      try simp only [Option.bind_some]
      try rewrite [ld_ok _ hM.s5 (b_X1_isOf_0 h2)]
      try rewrite [Option.bind_some]
      try rewrite [p12_5]
      try simp only [Option.bind_some]
      rewrite [if_pos (show kd (pt (pt X n U) m V, J) m = 1 from hM.k)]
      rewrite [s_X1_heldBelow hM]
      simp only [Option.bind_some, asI_I]
      by_cases h3 : (V 5 (ix x2)) ≤ (q_X1_heldBelow V x2)
      · rewrite [if_pos h3]; simp only [if_pos h3] at hR
        exact hR
      · rewrite [if_neg h3]; simp only [if_neg h3] at hR
        first | exact hR | (simp only [if_pos (show (0 : Int32) = 0 ∨ (0 : Int32) = 1 by decide), if_pos (show (1 : Int32) = 0 ∨ (1 : Int32) = 1 by decide)]; exact hR) | (simp; exact hR)
def f_X1_isBusy (U : NodV) (V : MemV) (x1 : Int32) : Option Nat := fst? (fun k => (if (q_X1_isOf U V (nI k) x1) = 0 then false else (if (V 5 k) ≤ (q_X1_heldBelow V (nI k)) then false else true))) 0 64
def ql_X1_isBusy (U : NodV) (V : MemV) (x1 : Int32) : Int32 := (match f_X1_isBusy U V x1 with | some k => 1 | none => 0)
theorem l_X1_isBusy {J : MJ} {n m : Nat} (hN : NodL J n) (hM : MemL J m n) (d_UV : n + 6 ≤ m ∨ m + 12 ≤ n) (X : MI) (U : NodV) (V : MemV) (x1 : Int32) : Ev T_X1_isBusy 2 [some (mR (some m)), some (mI x1), some (mI 0)] [] (pt (pt X n U) m V, J) = some (some (mI (ql_X1_isBusy U V x1)), (pt (pt X n U) m V, J)) := by
  have step := loop_find (fun k => Ev T_X1_isBusy 2 [some (mR (some m)), some (mI x1), some (mI (nI k))] [] (pt (pt X n U) m V, J)) (fun k => (if (q_X1_isOf U V (nI k) x1) = 0 then false else (if (V 5 k) ≤ (q_X1_heldBelow V (nI k)) then false else true))) (fun k => some (some (mI (1)), (pt (pt X n U) m V, J))) 64 (fun k hk => by
    try dsimp only
    rw [P_X1_isBusy_2 hN hM d_UV _ _ _ _ _, if_neg (show ¬ (64 : Int32) ≤ nI k from nI_ge hk (by decide))]
    try rw [ix_nI (by omega)]
    rw [nI_1]
    by_cases k1 : (q_X1_isOf U V (nI k) x1) = 0
    ·
      simp [k1, nI_1]
    ·
      by_cases k2 : (V 5 k) ≤ (q_X1_heldBelow V (nI k))
      ·
        simp [k1, k2, nI_1]
      ·
        simp [k1, k2, nI_1]) 64 0 (by omega)
  have hend : Ev T_X1_isBusy 2 [some (mR (some m)), some (mI x1), some (mI (nI 64))] [] (pt (pt X n U) m V, J) = some (some (mI 0), (pt (pt X n U) m V, J)) := by
    rw [P_X1_isBusy_2 hN hM d_UV _ _ _ _ _, if_pos (show (64 : Int32) ≤ nI 64 from Int32.le_refl _)]
  have h0 : (nI 0) = 0 := rfl
  try dsimp only at step
  rw [h0] at step
  rw [step]
  unfold ql_X1_isBusy f_X1_isBusy
  cases fst? (fun k => (if (q_X1_isOf U V (nI k) x1) = 0 then false else (if (V 5 k) ≤ (q_X1_heldBelow V (nI k)) then false else true))) 0 64 with
  | none => exact hend
  | some j => rfl
def q_X1_isBusy (U : NodV) (V : MemV) (x1 : Int32) : Int32 := ql_X1_isBusy U V x1
theorem s_X1_isBusy {J : MJ} {n m : Nat} (hN : NodL J n) (hM : MemL J m n) (d_UV : n + 6 ≤ m ∨ m + 12 ≤ n) (X : MI) (U : NodV) (V : MemV) (x1 : Int32) : M_X1_isBusy [mR (some m), mI x1] (pt (pt X n U) m V, J) = some (some (mI (q_X1_isBusy U V x1)), (pt (pt X n U) m V, J)) := by
  rw [P_X1_isBusy hN hM d_UV]
  unfold q_X1_isBusy
  exact l_X1_isBusy hN hM d_UV _ _ _ _
theorem P_X1_howMany {J : MJ} {m n : Nat} (hM : MemL J m n) (X : MI) (V : MemV) : M_X1_howMany [mR (some m)] (pt X m V, J) = Ev T_X1_howMany 4 [some (mR (some m)), some (mI 0), some (mI 0)] [] (pt X m V, J) := by
  generalize hR : Ev T_X1_howMany 4 [some (mR (some m)), some (mI 0), some (mI 0)] [] (pt X m V, J) = R
  rw [E_X1_howMany]
  exact hR
theorem P_X1_howMany_4 {J : MJ} {m n : Nat} (hM : MemL J m n) (X : MI) (V : MemV) (x1 : Int32) (x2 : Int32) (h_x2 : ¬ x2 < 0) : Ev T_X1_howMany 4 [some (mR (some m)), some (mI x1), some (mI x2)] [] (pt X m V, J) = (if (64 : Int32) ≤ x2 then some (some (mI x1), (pt X m V, J)) else (if (V 1 (ix x2)) = 0 then Ev T_X1_howMany 4 [some (mR (some m)), some (mI (x1 + 0)), some (mI (x2 + 1))] [] (pt X m V, J) else Ev T_X1_howMany 4 [some (mR (some m)), some (mI (x1 + 1)), some (mI (x2 + 1))] [] (pt X m V, J))) := by
  generalize hR : (if (64 : Int32) ≤ x2 then some (some (mI x1), (pt X m V, J)) else (if (V 1 (ix x2)) = 0 then Ev T_X1_howMany 4 [some (mR (some m)), some (mI (x1 + 0)), some (mI (x2 + 1))] [] (pt X m V, J) else Ev T_X1_howMany 4 [some (mR (some m)), some (mI (x1 + 1)), some (mI (x2 + 1))] [] (pt X m V, J))) = R
  rw [E_X1_howMany_4]
  by_cases h1 : (64 : Int32) ≤ x2
  · rewrite [if_pos h1]; simp only [if_pos h1] at hR
    exact hR
  · rewrite [if_neg h1]; simp only [if_neg h1] at hR
    try rewrite [fR_ok 1 hM.k]
    try rewrite [Option.bind_some]
    try rewrite [hM.r1]
    try simp only [Option.bind_some]
    try rewrite [ld_ok _ hM.s1 (inb_of rfl h_x2 h1)]
    try rewrite [Option.bind_some]
    try rewrite [p12_1]
    by_cases h2 : (V 1 (ix x2)) = 0
    · rewrite [if_pos h2]; simp only [if_pos h2] at hR
      exact hR
    · rewrite [if_neg h2]; simp only [if_neg h2] at hR
      exact hR
def c_X1_howMany (V : MemV)  : Nat := cnt (fun k => (if (V 1 k) = 0 then false else true)) 0 64
def ql_X1_howMany (V : MemV)  : Int32 := nI (c_X1_howMany V)
theorem l_X1_howMany {J : MJ} {m n : Nat} (hM : MemL J m n) (X : MI) (V : MemV)  : Ev T_X1_howMany 4 [some (mR (some m)), some (mI 0), some (mI 0)] [] (pt X m V, J) = some (some (mI (ql_X1_howMany V)), (pt X m V, J)) := by
  have step := loop_cnt (fun k c => Ev T_X1_howMany 4 [some (mR (some m)), some (mI (nI c)), some (mI (nI k))] [] (pt X m V, J)) (fun k => (if (V 1 k) = 0 then false else true)) 64 (fun k c hk => by
    try dsimp only
    rw [P_X1_howMany_4 hM _ _ _ _ (nI_pos (by omega)), if_neg (show ¬ (64 : Int32) ≤ nI k from nI_ge hk (by decide))]
    try rw [ix_nI (by omega)]
    rw [nI_1 k]
    by_cases k1 : (V 1 k) = 0
    ·
      simp [k1, nI_1]
    ·
      simp [k1, nI_1]) 64 0 0 (by omega)
  have h0 : (nI 0) = 0 := rfl
  try dsimp only at step
  rw [h0] at step
  rw [step, P_X1_howMany_4 hM _ _ _ _ (nI_pos (by omega)), if_pos (show (64 : Int32) ≤ nI 64 from Int32.le_refl _), Nat.zero_add]
  rfl
def q_X1_howMany (V : MemV)  : Int32 := ql_X1_howMany V
theorem s_X1_howMany {J : MJ} {m n : Nat} (hM : MemL J m n) (X : MI) (V : MemV)  : M_X1_howMany [mR (some m)] (pt X m V, J) = some (some (mI (q_X1_howMany V)), (pt X m V, J)) := by
  rw [P_X1_howMany hM]
  unfold q_X1_howMany
  exact l_X1_howMany hM _ _
theorem P_X1_dropVolume {J : MJ} {n m : Nat} (hN : NodL J n) (hM : MemL J m n) (d_UV : n + 6 ≤ m ∨ m + 12 ≤ n) (X : MI) (U : NodV) (V : MemV) (x1 : Int32) : M_X1_dropVolume [mR (some m), mI x1] (pt (pt X n U) m V, J) = (if x1 < 0 then some (some (mI ((-1))), (pt (pt X n U) m V, J)) else (if x1 < 3 then Ev T_X1_dropVolume 18 [some (mR (some m)), some (mI x1), some (mI (q_X1_howMany V)), some (mI 0)] [] (pt (pt X n U) m V, J) else some (some (mI ((-1))), (pt (pt X n U) m V, J)))) := by
  generalize hR : (if x1 < 0 then some (some (mI ((-1))), (pt (pt X n U) m V, J)) else (if x1 < 3 then Ev T_X1_dropVolume 18 [some (mR (some m)), some (mI x1), some (mI (q_X1_howMany V)), some (mI 0)] [] (pt (pt X n U) m V, J) else some (some (mI ((-1))), (pt (pt X n U) m V, J)))) = R
  rw [E_X1_dropVolume]
  by_cases h1 : x1 < 0
  · rewrite [if_pos h1]; simp only [if_pos h1] at hR
    exact hR
  · rewrite [if_neg h1]; simp only [if_neg h1] at hR
    by_cases h2 : x1 < 3
    · rewrite [if_pos h2]; simp only [if_pos h2] at hR
      try simp only [Option.bind_some]
      rewrite [if_pos (show kd (pt (pt X n U) m V, J) m = 1 from hM.k)]
      rewrite [s_X1_howMany hM]
      simp only [Option.bind_some, asI_I]
      exact hR
    · rewrite [if_neg h2]; simp only [if_neg h2] at hR
      exact hR
theorem P_X1_dropVolume_18 {J : MJ} {n m : Nat} (hN : NodL J n) (hM : MemL J m n) (d_UV : n + 6 ≤ m ∨ m + 12 ≤ n) (X : MI) (U : NodV) (V : MemV) (x1 : Int32) (x2 : Int32) (x3 : Int32) : Ev T_X1_dropVolume 18 [some (mR (some m)), some (mI x1), some (mI x2), some (mI x3)] [] (pt (pt X n U) m V, J) = (if (64 : Int32) ≤ x3 then Ev T_X1_dropVolume 54 [some (mR (some m)), some (mI x1), some (mI x2), some (mI 0)] [] (pt (pt X n U) m V, J) else (if (q_X1_isAbsence V x3) = 0 then Ev T_X1_dropVolume 18 [some (mR (some m)), some (mI x1), some (mI x2), some (mI (x3 + 1))] [] (pt (pt X n U) m V, J) else (if (q_X1_isOf U V x3 x1) = 0 then Ev T_X1_dropVolume 18 [some (mR (some m)), some (mI x1), some (mI x2), some (mI (x3 + 1))] [] (pt (pt X n U) m V, J) else Ev T_X1_dropVolume 18 [some (mR (some m)), some (mI x1), some (mI x2), some (mI (x3 + 1))] [] (pt (pt X n U) m (gV_X1_drop V x3), J)))) := by
  generalize hR : (if (64 : Int32) ≤ x3 then Ev T_X1_dropVolume 54 [some (mR (some m)), some (mI x1), some (mI x2), some (mI 0)] [] (pt (pt X n U) m V, J) else (if (q_X1_isAbsence V x3) = 0 then Ev T_X1_dropVolume 18 [some (mR (some m)), some (mI x1), some (mI x2), some (mI (x3 + 1))] [] (pt (pt X n U) m V, J) else (if (q_X1_isOf U V x3 x1) = 0 then Ev T_X1_dropVolume 18 [some (mR (some m)), some (mI x1), some (mI x2), some (mI (x3 + 1))] [] (pt (pt X n U) m V, J) else Ev T_X1_dropVolume 18 [some (mR (some m)), some (mI x1), some (mI x2), some (mI (x3 + 1))] [] (pt (pt X n U) m (gV_X1_drop V x3), J)))) = R
  rw [E_X1_dropVolume_18]
  by_cases h1 : (64 : Int32) ≤ x3
  · rewrite [if_pos h1]; simp only [if_pos h1] at hR
    exact hR
  · rewrite [if_neg h1]; simp only [if_neg h1] at hR
    try simp only [Option.bind_some]
    rewrite [if_pos (show kd (pt (pt X n U) m V, J) m = 1 from hM.k)]
    rewrite [s_X1_isAbsence hM]
    simp only [Option.bind_some, asI_I]
    by_cases h2 : (q_X1_isAbsence V x3) = 0
    · rewrite [if_pos h2]; simp only [if_pos h2] at hR
      exact hR
    · rewrite [if_neg h2]; simp only [if_neg h2] at hR
      try simp only [Option.bind_some]
      rewrite [if_pos (show kd (pt (pt X n U) m V, J) m = 1 from hM.k)]
      rewrite [s_X1_isOf hN hM d_UV]
      simp only [Option.bind_some, asI_I]
      by_cases h3 : (q_X1_isOf U V x3 x1) = 0
      · rewrite [if_pos h3]; simp only [if_pos h3] at hR
        exact hR
      · rewrite [if_neg h3]; simp only [if_neg h3] at hR
        try simp only [Option.bind_some]
        rewrite [if_pos (show kd (pt (pt X n U) m V, J) m = 1 from hM.k)]
        rewrite [s_X1_drop hM]
        simp only [Option.bind_some, asV_n]
        exact hR
theorem P_X1_dropVolume_54 {J : MJ} {n m : Nat} (hN : NodL J n) (hM : MemL J m n) (d_UV : n + 6 ≤ m ∨ m + 12 ≤ n) (X : MI) (U : NodV) (V : MemV) (x1 : Int32) (x2 : Int32) (x3 : Int32) (hb_x1 : inb x1 3) : Ev T_X1_dropVolume 54 [some (mR (some m)), some (mI x1), some (mI x2), some (mI x3)] [] (pt (pt X n U) m V, J) = (if (64 : Int32) ≤ x3 then (if (q_X1_isEntry (uv (uv V 9 (ix x1) ((-1))) 10 (ix x1) ((-1))) (V 10 (ix x1))) = 0 then some (some (mI (x2 - (q_X1_howMany (uv (uv V 9 (ix x1) ((-1))) 10 (ix x1) ((-1)))))), (pt (pt X n U) m (uv (uv V 9 (ix x1) ((-1))) 10 (ix x1) ((-1))), J)) else some (some (mI (x2 - (q_X1_howMany (gV_X1_release (uv (uv (uv V 9 (ix x1) ((-1))) 10 (ix x1) ((-1))) 6 (ix (V 10 (ix x1))) ((V 6 (ix (V 10 (ix x1)))) + 1)) (V 10 (ix x1)))))), (pt (pt X n U) m (gV_X1_release (uv (uv (uv V 9 (ix x1) ((-1))) 10 (ix x1) ((-1))) 6 (ix (V 10 (ix x1))) ((V 6 (ix (V 10 (ix x1)))) + 1)) (V 10 (ix x1))), J))) else (if (q_X1_isOf U V x3 x1) = 0 then Ev T_X1_dropVolume 54 [some (mR (some m)), some (mI x1), some (mI x2), some (mI (x3 + 1))] [] (pt (pt X n U) m V, J) else Ev T_X1_dropVolume 54 [some (mR (some m)), some (mI x1), some (mI x2), some (mI (x3 + 1))] [] (pt (pt X n U) m (gV_X1_drop V x3), J))) := by
  generalize hR : (if (64 : Int32) ≤ x3 then (if (q_X1_isEntry (uv (uv V 9 (ix x1) ((-1))) 10 (ix x1) ((-1))) (V 10 (ix x1))) = 0 then some (some (mI (x2 - (q_X1_howMany (uv (uv V 9 (ix x1) ((-1))) 10 (ix x1) ((-1)))))), (pt (pt X n U) m (uv (uv V 9 (ix x1) ((-1))) 10 (ix x1) ((-1))), J)) else some (some (mI (x2 - (q_X1_howMany (gV_X1_release (uv (uv (uv V 9 (ix x1) ((-1))) 10 (ix x1) ((-1))) 6 (ix (V 10 (ix x1))) ((V 6 (ix (V 10 (ix x1)))) + 1)) (V 10 (ix x1)))))), (pt (pt X n U) m (gV_X1_release (uv (uv (uv V 9 (ix x1) ((-1))) 10 (ix x1) ((-1))) 6 (ix (V 10 (ix x1))) ((V 6 (ix (V 10 (ix x1)))) + 1)) (V 10 (ix x1))), J))) else (if (q_X1_isOf U V x3 x1) = 0 then Ev T_X1_dropVolume 54 [some (mR (some m)), some (mI x1), some (mI x2), some (mI (x3 + 1))] [] (pt (pt X n U) m V, J) else Ev T_X1_dropVolume 54 [some (mR (some m)), some (mI x1), some (mI x2), some (mI (x3 + 1))] [] (pt (pt X n U) m (gV_X1_drop V x3), J))) = R
  rw [E_X1_dropVolume_54]
  by_cases h1 : (64 : Int32) ≤ x3
  · rewrite [if_pos h1]; simp only [if_pos h1] at hR
    try rewrite [fR_ok 10 hM.k]
    try rewrite [Option.bind_some]
    try rewrite [hM.r10]
    try simp only [Option.bind_some]
    try rewrite [ld_ok _ hM.s10 hb_x1]
    try rewrite [Option.bind_some]
    try rewrite [p12_10]
    try rewrite [fR_ok 9 hM.k]
    try rewrite [Option.bind_some]
    try rewrite [hM.r9]
    try simp only [Option.bind_some]
    try rewrite [st_ok _ _ hM.s9 hb_x1]
    try rewrite [Option.bind_some]
    try rewrite [u12_9]
    try rewrite [fR_ok 10 hM.k]
    try rewrite [Option.bind_some]
    try rewrite [hM.r10]
    try simp only [Option.bind_some]
    try rewrite [st_ok _ _ hM.s10 hb_x1]
    try rewrite [Option.bind_some]
    try rewrite [u12_10]
    try simp only [Option.bind_some]
    rewrite [if_pos (show kd (pt (pt X n U) m (uv (uv V 9 (ix x1) ((-1))) 10 (ix x1) ((-1))), J) m = 1 from hM.k)]
    rewrite [s_X1_isEntry hM]
    simp only [Option.bind_some, asI_I]
    by_cases h2 : (q_X1_isEntry (uv (uv V 9 (ix x1) ((-1))) 10 (ix x1) ((-1))) (V 10 (ix x1))) = 0
    · rewrite [if_pos h2]; simp only [if_pos h2] at hR
      try simp only [Option.bind_some]
      rewrite [if_pos (show kd (pt (pt X n U) m (uv (uv V 9 (ix x1) ((-1))) 10 (ix x1) ((-1))), J) m = 1 from hM.k)]
      rewrite [s_X1_howMany hM]
      simp only [Option.bind_some, asI_I]
      exact hR
    · rewrite [if_neg h2]; simp only [if_neg h2] at hR
      try rewrite [fR_ok 6 hM.k]
      try rewrite [Option.bind_some]
      try rewrite [hM.r6]
      try simp only [Option.bind_some]
      try rewrite [ld_ok _ hM.s6 (b_X1_isEntry_0 h2)]
      try rewrite [Option.bind_some]
      try rewrite [p12_6]
      try rewrite [uv_k _ _ _ _ _ (by decide)]
      try rewrite [uv_k _ _ _ _ _ (by decide)]
      try simp only [Option.bind_some]
      try rewrite [st_ok _ _ hM.s6 (b_X1_isEntry_0 h2)]
      try rewrite [Option.bind_some]
      try rewrite [u12_6]
      try simp only [Option.bind_some]
      rewrite [if_pos (show kd (pt (pt X n U) m (uv (uv (uv V 9 (ix x1) ((-1))) 10 (ix x1) ((-1))) 6 (ix (V 10 (ix x1))) ((V 6 (ix (V 10 (ix x1)))) + 1)), J) m = 1 from hM.k)]
      rewrite [s_X1_release hM]
      simp only [Option.bind_some, asV_n]
      try simp only [Option.bind_some]
      rewrite [if_pos (show kd (pt (pt X n U) m (gV_X1_release (uv (uv (uv V 9 (ix x1) ((-1))) 10 (ix x1) ((-1))) 6 (ix (V 10 (ix x1))) ((V 6 (ix (V 10 (ix x1)))) + 1)) (V 10 (ix x1))), J) m = 1 from hM.k)]
      rewrite [s_X1_howMany hM]
      simp only [Option.bind_some, asI_I]
      exact hR
  · rewrite [if_neg h1]; simp only [if_neg h1] at hR
    try simp only [Option.bind_some]
    rewrite [if_pos (show kd (pt (pt X n U) m V, J) m = 1 from hM.k)]
    rewrite [s_X1_isOf hN hM d_UV]
    simp only [Option.bind_some, asI_I]
    by_cases h3 : (q_X1_isOf U V x3 x1) = 0
    · rewrite [if_pos h3]; simp only [if_pos h3] at hR
      exact hR
    · rewrite [if_neg h3]; simp only [if_neg h3] at hR
      try simp only [Option.bind_some]
      rewrite [if_pos (show kd (pt (pt X n U) m V, J) m = 1 from hM.k)]
      rewrite [s_X1_drop hM]
      simp only [Option.bind_some, asV_n]
      exact hR
def lp_X1_dropVolume_54 (U : NodV) (x1 : Int32) (x2 : Int32) : Nat → Nat → MemV → Int32 × MemV
  | 0, k, V => (if (q_X1_isEntry (uv (uv V 9 (ix x1) ((-1))) 10 (ix x1) ((-1))) (V 10 (ix x1))) = 0 then (x2 - (q_X1_howMany (uv (uv V 9 (ix x1) ((-1))) 10 (ix x1) ((-1)))), uv (uv V 9 (ix x1) ((-1))) 10 (ix x1) ((-1))) else (x2 - (q_X1_howMany (gV_X1_release (uv (uv (uv V 9 (ix x1) ((-1))) 10 (ix x1) ((-1))) 6 (ix (V 10 (ix x1))) ((V 6 (ix (V 10 (ix x1)))) + 1)) (V 10 (ix x1)))), gV_X1_release (uv (uv (uv V 9 (ix x1) ((-1))) 10 (ix x1) ((-1))) 6 (ix (V 10 (ix x1))) ((V 6 (ix (V 10 (ix x1)))) + 1)) (V 10 (ix x1))))
  | nn + 1, k, V => (if (q_X1_isOf U V (nI k) x1) = 0 then lp_X1_dropVolume_54 U x1 x2 nn (k + 1) V else lp_X1_dropVolume_54 U x1 x2 nn (k + 1) (gV_X1_drop V (nI k)))
theorem lr_X1_dropVolume_54 {J : MJ} {n m : Nat} (hN : NodL J n) (hM : MemL J m n) (d_UV : n + 6 ≤ m ∨ m + 12 ≤ n) (X : MI) (U : NodV) (x1 : Int32) (x2 : Int32) : ∀ (nn k : Nat) (V : MemV), k + nn = 64 → inb x1 3 → Ev T_X1_dropVolume 54 [some (mR (some m)), some (mI x1), some (mI x2), some (mI (nI k))] [] (pt (pt X n U) m V, J) = some (some (mI ((lp_X1_dropVolume_54 U x1 x2 nn k V).1)), (pt (pt X n U) m ((lp_X1_dropVolume_54 U x1 x2 nn k V).2), J)) := by
  intro nn
  induction nn with
  | zero =>
    intro k V hk hb_x1
    have hk : k = 64 := by omega
    subst hk
    generalize hR : some (some (mI ((lp_X1_dropVolume_54 U x1 x2 0 64 V).1)), (pt (pt X n U) m ((lp_X1_dropVolume_54 U x1 x2 0 64 V).2), J)) = R
    rw [lp_X1_dropVolume_54] at hR
    rw [P_X1_dropVolume_54 hN hM d_UV _ _ _ _ _ _ hb_x1, if_pos (show (64 : Int32) ≤ nI 64 from Int32.le_refl _)]
    by_cases k1 : (q_X1_isEntry (uv (uv V 9 (ix x1) ((-1))) 10 (ix x1) ((-1))) (V 10 (ix x1))) = 0
    · rewrite [if_pos k1]; simp only [if_pos k1] at hR
      exact hR
    · rewrite [if_neg k1]; simp only [if_neg k1] at hR
      exact hR
  | succ nn ih =>
    intro k V hk hb_x1
    generalize hR : some (some (mI ((lp_X1_dropVolume_54 U x1 x2 (nn + 1) k V).1)), (pt (pt X n U) m ((lp_X1_dropVolume_54 U x1 x2 (nn + 1) k V).2), J)) = R
    rw [lp_X1_dropVolume_54] at hR
    rw [P_X1_dropVolume_54 hN hM d_UV _ _ _ _ _ _ hb_x1, if_neg (show ¬ (64 : Int32) ≤ nI k from nI_ge (show k < 64 by omega) (by decide))]
    try rw [ix_nI (by omega)]
    rw [nI_1 k]
    by_cases k1 : (q_X1_isOf U V (nI k) x1) = 0
    · rewrite [if_pos k1]; simp only [if_pos k1] at hR
      exact (ih (k + 1) _ (by omega) hb_x1).trans hR
    · rewrite [if_neg k1]; simp only [if_neg k1] at hR
      exact (ih (k + 1) _ (by omega) hb_x1).trans hR
def lp_X1_dropVolume_18 (U : NodV) (x1 : Int32) (x2 : Int32) : Nat → Nat → MemV → Int32 × MemV
  | 0, k, V => lp_X1_dropVolume_54 U x1 x2 64 0 V
  | nn + 1, k, V => (if (q_X1_isAbsence V (nI k)) = 0 then lp_X1_dropVolume_18 U x1 x2 nn (k + 1) V else (if (q_X1_isOf U V (nI k) x1) = 0 then lp_X1_dropVolume_18 U x1 x2 nn (k + 1) V else lp_X1_dropVolume_18 U x1 x2 nn (k + 1) (gV_X1_drop V (nI k))))
theorem lr_X1_dropVolume_18 {J : MJ} {n m : Nat} (hN : NodL J n) (hM : MemL J m n) (d_UV : n + 6 ≤ m ∨ m + 12 ≤ n) (X : MI) (U : NodV) (x1 : Int32) (x2 : Int32) : ∀ (nn k : Nat) (V : MemV), k + nn = 64 → inb x1 3 → Ev T_X1_dropVolume 18 [some (mR (some m)), some (mI x1), some (mI x2), some (mI (nI k))] [] (pt (pt X n U) m V, J) = some (some (mI ((lp_X1_dropVolume_18 U x1 x2 nn k V).1)), (pt (pt X n U) m ((lp_X1_dropVolume_18 U x1 x2 nn k V).2), J)) := by
  intro nn
  induction nn with
  | zero =>
    intro k V hk hb_x1
    have hk : k = 64 := by omega
    subst hk
    generalize hR : some (some (mI ((lp_X1_dropVolume_18 U x1 x2 0 64 V).1)), (pt (pt X n U) m ((lp_X1_dropVolume_18 U x1 x2 0 64 V).2), J)) = R
    rw [lp_X1_dropVolume_18] at hR
    rw [P_X1_dropVolume_18 hN hM d_UV _ _ _ _ _ _, if_pos (show (64 : Int32) ≤ nI 64 from Int32.le_refl _)]
    exact (lr_X1_dropVolume_54 hN hM d_UV X _ _ _ _ 0 _ (by omega) (by assumption)).trans hR
  | succ nn ih =>
    intro k V hk hb_x1
    generalize hR : some (some (mI ((lp_X1_dropVolume_18 U x1 x2 (nn + 1) k V).1)), (pt (pt X n U) m ((lp_X1_dropVolume_18 U x1 x2 (nn + 1) k V).2), J)) = R
    rw [lp_X1_dropVolume_18] at hR
    rw [P_X1_dropVolume_18 hN hM d_UV _ _ _ _ _ _, if_neg (show ¬ (64 : Int32) ≤ nI k from nI_ge (show k < 64 by omega) (by decide))]
    try rw [ix_nI (by omega)]
    rw [nI_1 k]
    by_cases k1 : (q_X1_isAbsence V (nI k)) = 0
    · rewrite [if_pos k1]; simp only [if_pos k1] at hR
      exact (ih (k + 1) _ (by omega) hb_x1).trans hR
    · rewrite [if_neg k1]; simp only [if_neg k1] at hR
      by_cases k2 : (q_X1_isOf U V (nI k) x1) = 0
      · rewrite [if_pos k2]; simp only [if_pos k2] at hR
        exact (ih (k + 1) _ (by omega) hb_x1).trans hR
      · rewrite [if_neg k2]; simp only [if_neg k2] at hR
        exact (ih (k + 1) _ (by omega) hb_x1).trans hR
def o_X1_dropVolume (U : NodV) (V : MemV) (x1 : Int32) : Int32 × MemV := (if x1 < 0 then ((-1), V) else (if x1 < 3 then lp_X1_dropVolume_18 U x1 (q_X1_howMany V) 64 0 V else ((-1), V)))
def q_X1_dropVolume (U : NodV) (V : MemV) (x1 : Int32) : Int32 := (o_X1_dropVolume U V x1).1
def gV_X1_dropVolume (U : NodV) (V : MemV) (x1 : Int32) : MemV := (o_X1_dropVolume U V x1).2
theorem s_X1_dropVolume {J : MJ} {n m : Nat} (hN : NodL J n) (hM : MemL J m n) (d_UV : n + 6 ≤ m ∨ m + 12 ≤ n) (X : MI) (U : NodV) (V : MemV) (x1 : Int32) : M_X1_dropVolume [mR (some m), mI x1] (pt (pt X n U) m V, J) = some (some (mI (q_X1_dropVolume U V x1)), (pt (pt X n U) m ((gV_X1_dropVolume U V x1)), J)) := by
  generalize hR : some (some (mI (q_X1_dropVolume U V x1)), (pt (pt X n U) m ((gV_X1_dropVolume U V x1)), J)) = R
  rw [P_X1_dropVolume hN hM d_UV]
  unfold q_X1_dropVolume gV_X1_dropVolume o_X1_dropVolume at hR
  by_cases k1 : x1 < 0
  · rewrite [if_pos k1]; simp only [if_pos k1] at hR
    exact hR
  · rewrite [if_neg k1]; simp only [if_neg k1] at hR
    by_cases k2 : x1 < 3
    · rewrite [if_pos k2]; simp only [if_pos k2] at hR
      exact (lr_X1_dropVolume_18 hN hM d_UV X _ _ _ _ 0 _ (by omega) (inb_of rfl k1 (Int32.not_le.mpr k2))).trans hR
    · rewrite [if_neg k2]; simp only [if_neg k2] at hR
      exact hR
theorem P_X1_markUpFrom {J : MJ} {m n : Nat} (hM : MemL J m n) (X : MI) (V : MemV) (x1 : Int32) : M_X1_markUpFrom [mR (some m), mI x1] (pt X m V, J) = Ev T_X1_markUpFrom 4 [some (mR (some m)), none, some (mI x1), some (mI 0)] [] (pt X m V, J) := by
  generalize hR : Ev T_X1_markUpFrom 4 [some (mR (some m)), none, some (mI x1), some (mI 0)] [] (pt X m V, J) = R
  rw [E_X1_markUpFrom]
  exact hR
theorem P_X1_markUpFrom_4 {J : MJ} {m n : Nat} (hM : MemL J m n) (X : MI) (V : MemV) (x2 : Int32) (x3 : Int32) : Ev T_X1_markUpFrom 4 [some (mR (some m)), none, some (mI x2), some (mI x3)] [] (pt X m V, J) = (if (64 : Int32) ≤ x3 then some (none, (pt X m V, J)) else (if (q_X1_isEntry V x2) = 0 then some (none, (pt X m V, J)) else Ev T_X1_markUpFrom 4 [some (mR (some m)), none, some (mI (V 2 (ix x2))), some (mI (x3 + 1))] [] (pt X m (uv V 5 (ix x2) 1), J))) := by
  generalize hR : (if (64 : Int32) ≤ x3 then some (none, (pt X m V, J)) else (if (q_X1_isEntry V x2) = 0 then some (none, (pt X m V, J)) else Ev T_X1_markUpFrom 4 [some (mR (some m)), none, some (mI (V 2 (ix x2))), some (mI (x3 + 1))] [] (pt X m (uv V 5 (ix x2) 1), J))) = R
  rw [E_X1_markUpFrom_4]
  by_cases h1 : (64 : Int32) ≤ x3
  · rewrite [if_pos h1]; simp only [if_pos h1] at hR
    exact hR
  · rewrite [if_neg h1]; simp only [if_neg h1] at hR
    try simp only [Option.bind_some]
    rewrite [if_pos (show kd (pt X m V, J) m = 1 from hM.k)]
    rewrite [s_X1_isEntry hM]
    simp only [Option.bind_some, asI_I]
    by_cases h2 : (q_X1_isEntry V x2) = 0
    · rewrite [if_pos h2]; simp only [if_pos h2] at hR
      exact hR
    · rewrite [if_neg h2]; simp only [if_neg h2] at hR
      try rewrite [fR_ok 5 hM.k]
      try rewrite [Option.bind_some]
      try rewrite [hM.r5]
      try simp only [Option.bind_some]
      try rewrite [st_ok _ _ hM.s5 (b_X1_isEntry_0 h2)]
      try rewrite [Option.bind_some]
      try rewrite [u12_5]
      try rewrite [fR_ok 2 hM.k]
      try rewrite [Option.bind_some]
      try rewrite [hM.r2]
      try simp only [Option.bind_some]
      try rewrite [ld_ok _ hM.s2 (b_X1_isEntry_0 h2)]
      try rewrite [Option.bind_some]
      try rewrite [p12_2]
      try rewrite [uv_k _ _ _ _ _ (by decide)]
      exact hR
def lp_X1_markUpFrom_4  : Nat → Nat → Int32 → MemV → MemV
  | 0, k, x2, V => (V)
  | nn + 1, k, x2, V => (if (q_X1_isEntry V x2) = 0 then (V) else lp_X1_markUpFrom_4  nn (k + 1) (V 2 (ix x2)) (uv V 5 (ix x2) 1))
theorem lr_X1_markUpFrom_4 {J : MJ} {m n : Nat} (hM : MemL J m n) (X : MI)  : ∀ (nn k : Nat) (x2 : Int32) (V : MemV), k + nn = 64 → Ev T_X1_markUpFrom 4 [some (mR (some m)), none, some (mI x2), some (mI (nI k))] [] (pt X m V, J) = some (none, (pt X m ((lp_X1_markUpFrom_4  nn k x2 V)), J)) := by
  intro nn
  induction nn with
  | zero =>
    intro k x2 V hk
    have hk : k = 64 := by omega
    subst hk
    generalize hR : some (none, (pt X m ((lp_X1_markUpFrom_4  0 64 x2 V)), J)) = R
    rw [lp_X1_markUpFrom_4] at hR
    rw [P_X1_markUpFrom_4 hM _ _ _ _, if_pos (show (64 : Int32) ≤ nI 64 from Int32.le_refl _)]
    exact hR
  | succ nn ih =>
    intro k x2 V hk
    generalize hR : some (none, (pt X m ((lp_X1_markUpFrom_4  (nn + 1) k x2 V)), J)) = R
    rw [lp_X1_markUpFrom_4] at hR
    rw [P_X1_markUpFrom_4 hM _ _ _ _, if_neg (show ¬ (64 : Int32) ≤ nI k from nI_ge (show k < 64 by omega) (by decide))]
    try rw [ix_nI (by omega)]
    rw [nI_1 k]
    by_cases k1 : (q_X1_isEntry V x2) = 0
    · rewrite [if_pos k1]; simp only [if_pos k1] at hR
      exact hR
    · rewrite [if_neg k1]; simp only [if_neg k1] at hR
      exact (ih (k + 1) _ _ (by omega)).trans hR
def o_X1_markUpFrom (V : MemV) (x1 : Int32) : MemV := lp_X1_markUpFrom_4  64 0 x1 V
def gV_X1_markUpFrom (V : MemV) (x1 : Int32) : MemV := (o_X1_markUpFrom V x1)
theorem s_X1_markUpFrom {J : MJ} {m n : Nat} (hM : MemL J m n) (X : MI) (V : MemV) (x1 : Int32) : M_X1_markUpFrom [mR (some m), mI x1] (pt X m V, J) = some (none, (pt X m ((gV_X1_markUpFrom V x1)), J)) := by
  generalize hR : some (none, (pt X m ((gV_X1_markUpFrom V x1)), J)) = R
  rw [P_X1_markUpFrom hM]
  unfold gV_X1_markUpFrom o_X1_markUpFrom at hR
  exact (lr_X1_markUpFrom_4 hM X  _ 0 _ _ (by omega)).trans hR
theorem P_X1_keepMountsAlone {J : MJ} {m n : Nat} (hM : MemL J m n) (X : MI) (V : MemV) : M_X1_keepMountsAlone [mR (some m)] (pt X m V, J) = Ev T_X1_keepMountsAlone 10 [some (mR (some m)), some (mI 0)] [] (pt X m (cpv V 5 64 (fun _ => 0)), J) := by
  generalize hR : Ev T_X1_keepMountsAlone 10 [some (mR (some m)), some (mI 0)] [] (pt X m (cpv V 5 64 (fun _ => 0)), J) = R
  rw [E_X1_keepMountsAlone]
  try rewrite [fR_ok 5 hM.k]
  try rewrite [Option.bind_some]
  try rewrite [hM.r5]
  try simp only [Option.bind_some]
  rw [fill_s hM.s5 (by decide)]
  simp only [Option.bind_some, asV_n]
  rw [c12_5 (f := fun _ => 0)]
  exact hR
theorem P_X1_keepMountsAlone_10 {J : MJ} {m n : Nat} (hM : MemL J m n) (X : MI) (V : MemV) (x1 : Int32) (h_x1 : ¬ x1 < 0) : Ev T_X1_keepMountsAlone 10 [some (mR (some m)), some (mI x1)] [] (pt X m V, J) = (if (3 : Int32) ≤ x1 then Ev T_X1_keepMountsAlone 43 [some (mR (some m)), some (mI 0)] [] (pt X m V, J) else Ev T_X1_keepMountsAlone 10 [some (mR (some m)), some (mI (x1 + 1))] [] (pt X m (gV_X1_markUpFrom (gV_X1_markUpFrom V (V 9 (ix x1))) ((gV_X1_markUpFrom V (V 9 (ix x1))) 10 (ix x1))), J)) := by
  generalize hR : (if (3 : Int32) ≤ x1 then Ev T_X1_keepMountsAlone 43 [some (mR (some m)), some (mI 0)] [] (pt X m V, J) else Ev T_X1_keepMountsAlone 10 [some (mR (some m)), some (mI (x1 + 1))] [] (pt X m (gV_X1_markUpFrom (gV_X1_markUpFrom V (V 9 (ix x1))) ((gV_X1_markUpFrom V (V 9 (ix x1))) 10 (ix x1))), J)) = R
  rw [E_X1_keepMountsAlone_10]
  by_cases h1 : (3 : Int32) ≤ x1
  · rewrite [if_pos h1]; simp only [if_pos h1] at hR
    exact hR
  · rewrite [if_neg h1]; simp only [if_neg h1] at hR
    try rewrite [fR_ok 9 hM.k]
    try rewrite [Option.bind_some]
    try rewrite [hM.r9]
    try simp only [Option.bind_some]
    try rewrite [ld_ok _ hM.s9 (inb_of rfl h_x1 h1)]
    try rewrite [Option.bind_some]
    try rewrite [p12_9]
    try simp only [Option.bind_some]
    rewrite [if_pos (show kd (pt X m V, J) m = 1 from hM.k)]
    rewrite [s_X1_markUpFrom hM]
    simp only [Option.bind_some, asV_n]
    try rewrite [fR_ok 10 hM.k]
    try rewrite [Option.bind_some]
    try rewrite [hM.r10]
    try simp only [Option.bind_some]
    try rewrite [ld_ok _ hM.s10 (inb_of rfl h_x1 h1)]
    try rewrite [Option.bind_some]
    try rewrite [p12_10]
    try simp only [Option.bind_some]
    rewrite [if_pos (show kd (pt X m (gV_X1_markUpFrom V (V 9 (ix x1))), J) m = 1 from hM.k)]
    rewrite [s_X1_markUpFrom hM]
    simp only [Option.bind_some, asV_n]
    exact hR
theorem P_X1_keepMountsAlone_43 {J : MJ} {m n : Nat} (hM : MemL J m n) (X : MI) (V : MemV) (x1 : Int32) (h_x1 : ¬ x1 < 0) : Ev T_X1_keepMountsAlone 43 [some (mR (some m)), some (mI x1)] [] (pt X m V, J) = (if (64 : Int32) ≤ x1 then Ev T_X1_keepMountsAlone 81 [some (mR (some m)), some (mI 0)] [] (pt X m (cpv V 5 64 (fun _ => 0)), J) else (if (V 5 (ix x1)) = 0 then Ev T_X1_keepMountsAlone 43 [some (mR (some m)), some (mI (x1 + 1))] [] (pt X m (uv V 1 (ix x1) 0), J) else Ev T_X1_keepMountsAlone 43 [some (mR (some m)), some (mI (x1 + 1))] [] (pt X m V, J))) := by
  generalize hR : (if (64 : Int32) ≤ x1 then Ev T_X1_keepMountsAlone 81 [some (mR (some m)), some (mI 0)] [] (pt X m (cpv V 5 64 (fun _ => 0)), J) else (if (V 5 (ix x1)) = 0 then Ev T_X1_keepMountsAlone 43 [some (mR (some m)), some (mI (x1 + 1))] [] (pt X m (uv V 1 (ix x1) 0), J) else Ev T_X1_keepMountsAlone 43 [some (mR (some m)), some (mI (x1 + 1))] [] (pt X m V, J))) = R
  rw [E_X1_keepMountsAlone_43]
  by_cases h1 : (64 : Int32) ≤ x1
  · rewrite [if_pos h1]; simp only [if_pos h1] at hR
    try rewrite [fR_ok 5 hM.k]
    try rewrite [Option.bind_some]
    try rewrite [hM.r5]
    try simp only [Option.bind_some]
    rw [fill_s hM.s5 (by decide)]
    simp only [Option.bind_some, asV_n]
    rw [c12_5 (f := fun _ => 0)]
    exact hR
  · rewrite [if_neg h1]; simp only [if_neg h1] at hR
    try rewrite [fR_ok 5 hM.k]
    try rewrite [Option.bind_some]
    try rewrite [hM.r5]
    try simp only [Option.bind_some]
    try rewrite [ld_ok _ hM.s5 (inb_of rfl h_x1 h1)]
    try rewrite [Option.bind_some]
    try rewrite [p12_5]
    by_cases h2 : (V 5 (ix x1)) = 0
    · rewrite [if_pos h2]; simp only [if_pos h2] at hR
      try rewrite [fR_ok 1 hM.k]
      try rewrite [Option.bind_some]
      try rewrite [hM.r1]
      try simp only [Option.bind_some]
      try rewrite [st_ok _ _ hM.s1 (inb_of rfl h_x1 h1)]
      try rewrite [Option.bind_some]
      try rewrite [u12_1]
      exact hR
    · rewrite [if_neg h2]; simp only [if_neg h2] at hR
      exact hR
theorem P_X1_keepMountsAlone_81 {J : MJ} {m n : Nat} (hM : MemL J m n) (X : MI) (V : MemV) (x1 : Int32) (h_x1 : ¬ x1 < 0) : Ev T_X1_keepMountsAlone 81 [some (mR (some m)), some (mI x1)] [] (pt X m V, J) = (if (64 : Int32) ≤ x1 then Ev T_X1_keepMountsAlone 114 [some (mR (some m)), some (mI 0)] [] (pt X m V, J) else (if (V 1 (ix x1)) = 0 then Ev T_X1_keepMountsAlone 81 [some (mR (some m)), some (mI (x1 + 1))] [] (pt X m V, J) else Ev T_X1_keepMountsAlone 81 [some (mR (some m)), some (mI (x1 + 1))] [] (pt X m (gV_X1_hold V (V 2 (ix x1))), J))) := by
  generalize hR : (if (64 : Int32) ≤ x1 then Ev T_X1_keepMountsAlone 114 [some (mR (some m)), some (mI 0)] [] (pt X m V, J) else (if (V 1 (ix x1)) = 0 then Ev T_X1_keepMountsAlone 81 [some (mR (some m)), some (mI (x1 + 1))] [] (pt X m V, J) else Ev T_X1_keepMountsAlone 81 [some (mR (some m)), some (mI (x1 + 1))] [] (pt X m (gV_X1_hold V (V 2 (ix x1))), J))) = R
  rw [E_X1_keepMountsAlone_81]
  by_cases h1 : (64 : Int32) ≤ x1
  · rewrite [if_pos h1]; simp only [if_pos h1] at hR
    exact hR
  · rewrite [if_neg h1]; simp only [if_neg h1] at hR
    try rewrite [fR_ok 1 hM.k]
    try rewrite [Option.bind_some]
    try rewrite [hM.r1]
    try simp only [Option.bind_some]
    try rewrite [ld_ok _ hM.s1 (inb_of rfl h_x1 h1)]
    try rewrite [Option.bind_some]
    try rewrite [p12_1]
    by_cases h2 : (V 1 (ix x1)) = 0
    · rewrite [if_pos h2]; simp only [if_pos h2] at hR
      exact hR
    · rewrite [if_neg h2]; simp only [if_neg h2] at hR
      try rewrite [fR_ok 2 hM.k]
      try rewrite [Option.bind_some]
      try rewrite [hM.r2]
      try simp only [Option.bind_some]
      try rewrite [ld_ok _ hM.s2 (inb_of rfl h_x1 h1)]
      try rewrite [Option.bind_some]
      try rewrite [p12_2]
      try simp only [Option.bind_some]
      rewrite [if_pos (show kd (pt X m V, J) m = 1 from hM.k)]
      rewrite [s_X1_hold hM]
      simp only [Option.bind_some, asV_n]
      exact hR
theorem P_X1_keepMountsAlone_114 {J : MJ} {m n : Nat} (hM : MemL J m n) (X : MI) (V : MemV) (x1 : Int32) (h_x1 : ¬ x1 < 0) : Ev T_X1_keepMountsAlone 114 [some (mR (some m)), some (mI x1)] [] (pt X m V, J) = (if (3 : Int32) ≤ x1 then some (none, (pt X m V, J)) else Ev T_X1_keepMountsAlone 114 [some (mR (some m)), some (mI (x1 + 1))] [] (pt X m (gV_X1_hold V (V 10 (ix x1))), J)) := by
  generalize hR : (if (3 : Int32) ≤ x1 then some (none, (pt X m V, J)) else Ev T_X1_keepMountsAlone 114 [some (mR (some m)), some (mI (x1 + 1))] [] (pt X m (gV_X1_hold V (V 10 (ix x1))), J)) = R
  rw [E_X1_keepMountsAlone_114]
  by_cases h1 : (3 : Int32) ≤ x1
  · rewrite [if_pos h1]; simp only [if_pos h1] at hR
    exact hR
  · rewrite [if_neg h1]; simp only [if_neg h1] at hR
    try rewrite [fR_ok 10 hM.k]
    try rewrite [Option.bind_some]
    try rewrite [hM.r10]
    try simp only [Option.bind_some]
    try rewrite [ld_ok _ hM.s10 (inb_of rfl h_x1 h1)]
    try rewrite [Option.bind_some]
    try rewrite [p12_10]
    try simp only [Option.bind_some]
    rewrite [if_pos (show kd (pt X m V, J) m = 1 from hM.k)]
    rewrite [s_X1_hold hM]
    simp only [Option.bind_some, asV_n]
    exact hR
def lp_X1_keepMountsAlone_114  : Nat → Nat → MemV → MemV
  | 0, k, V => (V)
  | nn + 1, k, V => lp_X1_keepMountsAlone_114  nn (k + 1) (gV_X1_hold V (V 10 k))
theorem lr_X1_keepMountsAlone_114 {J : MJ} {m n : Nat} (hM : MemL J m n) (X : MI)  : ∀ (nn k : Nat) (V : MemV), k + nn = 3 → Ev T_X1_keepMountsAlone 114 [some (mR (some m)), some (mI (nI k))] [] (pt X m V, J) = some (none, (pt X m ((lp_X1_keepMountsAlone_114  nn k V)), J)) := by
  intro nn
  induction nn with
  | zero =>
    intro k V hk
    have hk : k = 3 := by omega
    subst hk
    generalize hR : some (none, (pt X m ((lp_X1_keepMountsAlone_114  0 3 V)), J)) = R
    rw [lp_X1_keepMountsAlone_114] at hR
    rw [P_X1_keepMountsAlone_114 hM _ _ _ (nI_pos (by omega)), if_pos (show (3 : Int32) ≤ nI 3 from Int32.le_refl _)]
    exact hR
  | succ nn ih =>
    intro k V hk
    generalize hR : some (none, (pt X m ((lp_X1_keepMountsAlone_114  (nn + 1) k V)), J)) = R
    rw [lp_X1_keepMountsAlone_114] at hR
    rw [P_X1_keepMountsAlone_114 hM _ _ _ (nI_pos (by omega)), if_neg (show ¬ (3 : Int32) ≤ nI k from nI_ge (show k < 3 by omega) (by decide))]
    try rw [ix_nI (by omega)]
    rw [nI_1 k]
    exact (ih (k + 1) _ (by omega)).trans hR
def lp_X1_keepMountsAlone_81  : Nat → Nat → MemV → MemV
  | 0, k, V => lp_X1_keepMountsAlone_114  3 0 V
  | nn + 1, k, V => (if (V 1 k) = 0 then lp_X1_keepMountsAlone_81  nn (k + 1) V else lp_X1_keepMountsAlone_81  nn (k + 1) (gV_X1_hold V (V 2 k)))
theorem lr_X1_keepMountsAlone_81 {J : MJ} {m n : Nat} (hM : MemL J m n) (X : MI)  : ∀ (nn k : Nat) (V : MemV), k + nn = 64 → Ev T_X1_keepMountsAlone 81 [some (mR (some m)), some (mI (nI k))] [] (pt X m V, J) = some (none, (pt X m ((lp_X1_keepMountsAlone_81  nn k V)), J)) := by
  intro nn
  induction nn with
  | zero =>
    intro k V hk
    have hk : k = 64 := by omega
    subst hk
    generalize hR : some (none, (pt X m ((lp_X1_keepMountsAlone_81  0 64 V)), J)) = R
    rw [lp_X1_keepMountsAlone_81] at hR
    rw [P_X1_keepMountsAlone_81 hM _ _ _ (nI_pos (by omega)), if_pos (show (64 : Int32) ≤ nI 64 from Int32.le_refl _)]
    exact (lr_X1_keepMountsAlone_114 hM X  _ 0 _ (by omega)).trans hR
  | succ nn ih =>
    intro k V hk
    generalize hR : some (none, (pt X m ((lp_X1_keepMountsAlone_81  (nn + 1) k V)), J)) = R
    rw [lp_X1_keepMountsAlone_81] at hR
    rw [P_X1_keepMountsAlone_81 hM _ _ _ (nI_pos (by omega)), if_neg (show ¬ (64 : Int32) ≤ nI k from nI_ge (show k < 64 by omega) (by decide))]
    try rw [ix_nI (by omega)]
    rw [nI_1 k]
    by_cases k1 : (V 1 k) = 0
    · rewrite [if_pos k1]; simp only [if_pos k1] at hR
      exact (ih (k + 1) _ (by omega)).trans hR
    · rewrite [if_neg k1]; simp only [if_neg k1] at hR
      exact (ih (k + 1) _ (by omega)).trans hR
def lp_X1_keepMountsAlone_43  : Nat → Nat → MemV → MemV
  | 0, k, V => lp_X1_keepMountsAlone_81  64 0 (cpv V 5 64 (fun _ => 0))
  | nn + 1, k, V => (if (V 5 k) = 0 then lp_X1_keepMountsAlone_43  nn (k + 1) (uv V 1 k 0) else lp_X1_keepMountsAlone_43  nn (k + 1) V)
theorem lr_X1_keepMountsAlone_43 {J : MJ} {m n : Nat} (hM : MemL J m n) (X : MI)  : ∀ (nn k : Nat) (V : MemV), k + nn = 64 → Ev T_X1_keepMountsAlone 43 [some (mR (some m)), some (mI (nI k))] [] (pt X m V, J) = some (none, (pt X m ((lp_X1_keepMountsAlone_43  nn k V)), J)) := by
  intro nn
  induction nn with
  | zero =>
    intro k V hk
    have hk : k = 64 := by omega
    subst hk
    generalize hR : some (none, (pt X m ((lp_X1_keepMountsAlone_43  0 64 V)), J)) = R
    rw [lp_X1_keepMountsAlone_43] at hR
    rw [P_X1_keepMountsAlone_43 hM _ _ _ (nI_pos (by omega)), if_pos (show (64 : Int32) ≤ nI 64 from Int32.le_refl _)]
    exact (lr_X1_keepMountsAlone_81 hM X  _ 0 _ (by omega)).trans hR
  | succ nn ih =>
    intro k V hk
    generalize hR : some (none, (pt X m ((lp_X1_keepMountsAlone_43  (nn + 1) k V)), J)) = R
    rw [lp_X1_keepMountsAlone_43] at hR
    rw [P_X1_keepMountsAlone_43 hM _ _ _ (nI_pos (by omega)), if_neg (show ¬ (64 : Int32) ≤ nI k from nI_ge (show k < 64 by omega) (by decide))]
    try rw [ix_nI (by omega)]
    rw [nI_1 k]
    by_cases k1 : (V 5 k) = 0
    · rewrite [if_pos k1]; simp only [if_pos k1] at hR
      exact (ih (k + 1) _ (by omega)).trans hR
    · rewrite [if_neg k1]; simp only [if_neg k1] at hR
      exact (ih (k + 1) _ (by omega)).trans hR
def lp_X1_keepMountsAlone_10  : Nat → Nat → MemV → MemV
  | 0, k, V => lp_X1_keepMountsAlone_43  64 0 V
  | nn + 1, k, V => lp_X1_keepMountsAlone_10  nn (k + 1) (gV_X1_markUpFrom (gV_X1_markUpFrom V (V 9 k)) ((gV_X1_markUpFrom V (V 9 k)) 10 k))
theorem lr_X1_keepMountsAlone_10 {J : MJ} {m n : Nat} (hM : MemL J m n) (X : MI)  : ∀ (nn k : Nat) (V : MemV), k + nn = 3 → Ev T_X1_keepMountsAlone 10 [some (mR (some m)), some (mI (nI k))] [] (pt X m V, J) = some (none, (pt X m ((lp_X1_keepMountsAlone_10  nn k V)), J)) := by
  intro nn
  induction nn with
  | zero =>
    intro k V hk
    have hk : k = 3 := by omega
    subst hk
    generalize hR : some (none, (pt X m ((lp_X1_keepMountsAlone_10  0 3 V)), J)) = R
    rw [lp_X1_keepMountsAlone_10] at hR
    rw [P_X1_keepMountsAlone_10 hM _ _ _ (nI_pos (by omega)), if_pos (show (3 : Int32) ≤ nI 3 from Int32.le_refl _)]
    exact (lr_X1_keepMountsAlone_43 hM X  _ 0 _ (by omega)).trans hR
  | succ nn ih =>
    intro k V hk
    generalize hR : some (none, (pt X m ((lp_X1_keepMountsAlone_10  (nn + 1) k V)), J)) = R
    rw [lp_X1_keepMountsAlone_10] at hR
    rw [P_X1_keepMountsAlone_10 hM _ _ _ (nI_pos (by omega)), if_neg (show ¬ (3 : Int32) ≤ nI k from nI_ge (show k < 3 by omega) (by decide))]
    try rw [ix_nI (by omega)]
    rw [nI_1 k]
    exact (ih (k + 1) _ (by omega)).trans hR
def o_X1_keepMountsAlone (V : MemV)  : MemV := lp_X1_keepMountsAlone_10  3 0 (cpv V 5 64 (fun _ => 0))
def gV_X1_keepMountsAlone (V : MemV)  : MemV := (o_X1_keepMountsAlone V)
theorem s_X1_keepMountsAlone {J : MJ} {m n : Nat} (hM : MemL J m n) (X : MI) (V : MemV)  : M_X1_keepMountsAlone [mR (some m)] (pt X m V, J) = some (none, (pt X m ((gV_X1_keepMountsAlone V)), J)) := by
  generalize hR : some (none, (pt X m ((gV_X1_keepMountsAlone V)), J)) = R
  rw [P_X1_keepMountsAlone hM]
  unfold gV_X1_keepMountsAlone o_X1_keepMountsAlone at hR
  exact (lr_X1_keepMountsAlone_10 hM X  _ 0 _ (by omega)).trans hR
theorem P_X1_absences {J : MJ} {m n : Nat} (hM : MemL J m n) (X : MI) (V : MemV) : M_X1_absences [mR (some m)] (pt X m V, J) = Ev T_X1_absences 4 [some (mR (some m)), some (mI 0), some (mI 0)] [] (pt X m V, J) := by
  generalize hR : Ev T_X1_absences 4 [some (mR (some m)), some (mI 0), some (mI 0)] [] (pt X m V, J) = R
  rw [E_X1_absences]
  exact hR
theorem P_X1_absences_4 {J : MJ} {m n : Nat} (hM : MemL J m n) (X : MI) (V : MemV) (x1 : Int32) (x2 : Int32) : Ev T_X1_absences 4 [some (mR (some m)), some (mI x1), some (mI x2)] [] (pt X m V, J) = (if (64 : Int32) ≤ x2 then some (some (mI x1), (pt X m V, J)) else (if (q_X1_isAbsence V x2) = 0 then Ev T_X1_absences 4 [some (mR (some m)), some (mI (x1 + 0)), some (mI (x2 + 1))] [] (pt X m V, J) else Ev T_X1_absences 4 [some (mR (some m)), some (mI (x1 + 1)), some (mI (x2 + 1))] [] (pt X m V, J))) := by
  generalize hR : (if (64 : Int32) ≤ x2 then some (some (mI x1), (pt X m V, J)) else (if (q_X1_isAbsence V x2) = 0 then Ev T_X1_absences 4 [some (mR (some m)), some (mI (x1 + 0)), some (mI (x2 + 1))] [] (pt X m V, J) else Ev T_X1_absences 4 [some (mR (some m)), some (mI (x1 + 1)), some (mI (x2 + 1))] [] (pt X m V, J))) = R
  rw [E_X1_absences_4]
  by_cases h1 : (64 : Int32) ≤ x2
  · rewrite [if_pos h1]; simp only [if_pos h1] at hR
    exact hR
  · rewrite [if_neg h1]; simp only [if_neg h1] at hR
    try simp only [Option.bind_some]
    rewrite [if_pos (show kd (pt X m V, J) m = 1 from hM.k)]
    rewrite [s_X1_isAbsence hM]
    simp only [Option.bind_some, asI_I]
    by_cases h2 : (q_X1_isAbsence V x2) = 0
    · rewrite [if_pos h2]; simp only [if_pos h2] at hR
      exact hR
    · rewrite [if_neg h2]; simp only [if_neg h2] at hR
      exact hR
def c_X1_absences (V : MemV)  : Nat := cnt (fun k => (if (q_X1_isAbsence V (nI k)) = 0 then false else true)) 0 64
def ql_X1_absences (V : MemV)  : Int32 := nI (c_X1_absences V)
theorem l_X1_absences {J : MJ} {m n : Nat} (hM : MemL J m n) (X : MI) (V : MemV)  : Ev T_X1_absences 4 [some (mR (some m)), some (mI 0), some (mI 0)] [] (pt X m V, J) = some (some (mI (ql_X1_absences V)), (pt X m V, J)) := by
  have step := loop_cnt (fun k c => Ev T_X1_absences 4 [some (mR (some m)), some (mI (nI c)), some (mI (nI k))] [] (pt X m V, J)) (fun k => (if (q_X1_isAbsence V (nI k)) = 0 then false else true)) 64 (fun k c hk => by
    try dsimp only
    rw [P_X1_absences_4 hM _ _ _ _, if_neg (show ¬ (64 : Int32) ≤ nI k from nI_ge hk (by decide))]
    try rw [ix_nI (by omega)]
    rw [nI_1 k]
    by_cases k1 : (q_X1_isAbsence V (nI k)) = 0
    ·
      simp [k1, nI_1]
    ·
      simp [k1, nI_1]) 64 0 0 (by omega)
  have h0 : (nI 0) = 0 := rfl
  try dsimp only at step
  rw [h0] at step
  rw [step, P_X1_absences_4 hM _ _ _ _, if_pos (show (64 : Int32) ≤ nI 64 from Int32.le_refl _), Nat.zero_add]
  rfl
def q_X1_absences (V : MemV)  : Int32 := ql_X1_absences V
theorem s_X1_absences {J : MJ} {m n : Nat} (hM : MemL J m n) (X : MI) (V : MemV)  : M_X1_absences [mR (some m)] (pt X m V, J) = some (some (mI (q_X1_absences V)), (pt X m V, J)) := by
  rw [P_X1_absences hM]
  unfold q_X1_absences
  exact l_X1_absences hM _ _
theorem P_X1_freeOnes {J : MJ} {m n : Nat} (hM : MemL J m n) (X : MI) (V : MemV) : M_X1_freeOnes [mR (some m)] (pt X m V, J) = Ev T_X1_freeOnes 4 [some (mR (some m)), some (mI 0), some (mI 0)] [] (pt X m V, J) := by
  generalize hR : Ev T_X1_freeOnes 4 [some (mR (some m)), some (mI 0), some (mI 0)] [] (pt X m V, J) = R
  rw [E_X1_freeOnes]
  exact hR
theorem P_X1_freeOnes_4 {J : MJ} {m n : Nat} (hM : MemL J m n) (X : MI) (V : MemV) (x1 : Int32) (x2 : Int32) (h_x2 : ¬ x2 < 0) : Ev T_X1_freeOnes 4 [some (mR (some m)), some (mI x1), some (mI x2)] [] (pt X m V, J) = (if (64 : Int32) ≤ x2 then some (some (mI x1), (pt X m V, J)) else (if (V 1 (ix x2)) = 1 then (if (V 5 (ix x2)) = 0 then (if (V 2 (ix x2)) = ((-1)) then Ev T_X1_freeOnes 4 [some (mR (some m)), some (mI (x1 + 0)), some (mI (x2 + 1))] [] (pt X m V, J) else Ev T_X1_freeOnes 4 [some (mR (some m)), some (mI (x1 + 1)), some (mI (x2 + 1))] [] (pt X m V, J)) else Ev T_X1_freeOnes 4 [some (mR (some m)), some (mI (x1 + 0)), some (mI (x2 + 1))] [] (pt X m V, J)) else Ev T_X1_freeOnes 4 [some (mR (some m)), some (mI (x1 + 0)), some (mI (x2 + 1))] [] (pt X m V, J))) := by
  generalize hR : (if (64 : Int32) ≤ x2 then some (some (mI x1), (pt X m V, J)) else (if (V 1 (ix x2)) = 1 then (if (V 5 (ix x2)) = 0 then (if (V 2 (ix x2)) = ((-1)) then Ev T_X1_freeOnes 4 [some (mR (some m)), some (mI (x1 + 0)), some (mI (x2 + 1))] [] (pt X m V, J) else Ev T_X1_freeOnes 4 [some (mR (some m)), some (mI (x1 + 1)), some (mI (x2 + 1))] [] (pt X m V, J)) else Ev T_X1_freeOnes 4 [some (mR (some m)), some (mI (x1 + 0)), some (mI (x2 + 1))] [] (pt X m V, J)) else Ev T_X1_freeOnes 4 [some (mR (some m)), some (mI (x1 + 0)), some (mI (x2 + 1))] [] (pt X m V, J))) = R
  rw [E_X1_freeOnes_4]
  by_cases h1 : (64 : Int32) ≤ x2
  · rewrite [if_pos h1]; simp only [if_pos h1] at hR
    exact hR
  · rewrite [if_neg h1]; simp only [if_neg h1] at hR
    try rewrite [fR_ok 1 hM.k]
    try rewrite [Option.bind_some]
    try rewrite [hM.r1]
    try simp only [Option.bind_some]
    try rewrite [ld_ok _ hM.s1 (inb_of rfl h_x2 h1)]
    try rewrite [Option.bind_some]
    try rewrite [p12_1]
    by_cases h2 : (V 1 (ix x2)) = 1
    · rewrite [if_pos h2]; simp only [if_pos h2] at hR
      try rewrite [fR_ok 5 hM.k]
      try rewrite [Option.bind_some]
      try rewrite [hM.r5]
      try simp only [Option.bind_some]
      try rewrite [ld_ok _ hM.s5 (inb_of rfl h_x2 h1)]
      try rewrite [Option.bind_some]
      try rewrite [p12_5]
      by_cases h3 : (V 5 (ix x2)) = 0
      · rewrite [if_pos h3]; simp only [if_pos h3] at hR
        try rewrite [fR_ok 2 hM.k]
        try rewrite [Option.bind_some]
        try rewrite [hM.r2]
        try simp only [Option.bind_some]
        try rewrite [ld_ok _ hM.s2 (inb_of rfl h_x2 h1)]
        try rewrite [Option.bind_some]
        try rewrite [p12_2]
        by_cases h4 : (V 2 (ix x2)) = ((-1))
        · rewrite [if_pos h4]; simp only [if_pos h4] at hR
          exact hR
        · rewrite [if_neg h4]; simp only [if_neg h4] at hR
          exact hR
      · rewrite [if_neg h3]; simp only [if_neg h3] at hR
        exact hR
    · rewrite [if_neg h2]; simp only [if_neg h2] at hR
      exact hR
def c_X1_freeOnes (V : MemV)  : Nat := cnt (fun k => (if (V 1 k) = 1 then (if (V 5 k) = 0 then (if (V 2 k) = ((-1)) then false else true) else false) else false)) 0 64
def ql_X1_freeOnes (V : MemV)  : Int32 := nI (c_X1_freeOnes V)
theorem l_X1_freeOnes {J : MJ} {m n : Nat} (hM : MemL J m n) (X : MI) (V : MemV)  : Ev T_X1_freeOnes 4 [some (mR (some m)), some (mI 0), some (mI 0)] [] (pt X m V, J) = some (some (mI (ql_X1_freeOnes V)), (pt X m V, J)) := by
  have step := loop_cnt (fun k c => Ev T_X1_freeOnes 4 [some (mR (some m)), some (mI (nI c)), some (mI (nI k))] [] (pt X m V, J)) (fun k => (if (V 1 k) = 1 then (if (V 5 k) = 0 then (if (V 2 k) = ((-1)) then false else true) else false) else false)) 64 (fun k c hk => by
    try dsimp only
    rw [P_X1_freeOnes_4 hM _ _ _ _ (nI_pos (by omega)), if_neg (show ¬ (64 : Int32) ≤ nI k from nI_ge hk (by decide))]
    try rw [ix_nI (by omega)]
    rw [nI_1 k]
    by_cases k1 : (V 1 k) = 1
    ·
      by_cases k2 : (V 5 k) = 0
      ·
        by_cases k3 : (V 2 k) = ((-1))
        ·
          simp [k1, k2, k3, nI_1]
        ·
          simp [k1, k2, k3, nI_1]
      ·
        simp [k1, k2, nI_1]
    ·
      simp [k1, nI_1]) 64 0 0 (by omega)
  have h0 : (nI 0) = 0 := rfl
  try dsimp only at step
  rw [h0] at step
  rw [step, P_X1_freeOnes_4 hM _ _ _ _ (nI_pos (by omega)), if_pos (show (64 : Int32) ≤ nI 64 from Int32.le_refl _), Nat.zero_add]
  rfl
def q_X1_freeOnes (V : MemV)  : Int32 := ql_X1_freeOnes V
theorem s_X1_freeOnes {J : MJ} {m n : Nat} (hM : MemL J m n) (X : MI) (V : MemV)  : M_X1_freeOnes [mR (some m)] (pt X m V, J) = some (some (mI (q_X1_freeOnes V)), (pt X m V, J)) := by
  rw [P_X1_freeOnes hM]
  unfold q_X1_freeOnes
  exact l_X1_freeOnes hM _ _
theorem P_X1_goneOnes {J : MJ} {m n : Nat} (hM : MemL J m n) (X : MI) (V : MemV) : M_X1_goneOnes [mR (some m)] (pt X m V, J) = Ev T_X1_goneOnes 4 [some (mR (some m)), some (mI 0), some (mI 0)] [] (pt X m V, J) := by
  generalize hR : Ev T_X1_goneOnes 4 [some (mR (some m)), some (mI 0), some (mI 0)] [] (pt X m V, J) = R
  rw [E_X1_goneOnes]
  exact hR
theorem P_X1_goneOnes_4 {J : MJ} {m n : Nat} (hM : MemL J m n) (X : MI) (V : MemV) (x1 : Int32) (x2 : Int32) : Ev T_X1_goneOnes 4 [some (mR (some m)), some (mI x1), some (mI x2)] [] (pt X m V, J) = (if (64 : Int32) ≤ x2 then some (some (mI x1), (pt X m V, J)) else (if (q_X1_isGone V x2) = 0 then Ev T_X1_goneOnes 4 [some (mR (some m)), some (mI (x1 + 0)), some (mI (x2 + 1))] [] (pt X m V, J) else Ev T_X1_goneOnes 4 [some (mR (some m)), some (mI (x1 + 1)), some (mI (x2 + 1))] [] (pt X m V, J))) := by
  generalize hR : (if (64 : Int32) ≤ x2 then some (some (mI x1), (pt X m V, J)) else (if (q_X1_isGone V x2) = 0 then Ev T_X1_goneOnes 4 [some (mR (some m)), some (mI (x1 + 0)), some (mI (x2 + 1))] [] (pt X m V, J) else Ev T_X1_goneOnes 4 [some (mR (some m)), some (mI (x1 + 1)), some (mI (x2 + 1))] [] (pt X m V, J))) = R
  rw [E_X1_goneOnes_4]
  by_cases h1 : (64 : Int32) ≤ x2
  · rewrite [if_pos h1]; simp only [if_pos h1] at hR
    exact hR
  · rewrite [if_neg h1]; simp only [if_neg h1] at hR
    try simp only [Option.bind_some]
    rewrite [if_pos (show kd (pt X m V, J) m = 1 from hM.k)]
    rewrite [s_X1_isGone hM]
    simp only [Option.bind_some, asI_I]
    by_cases h2 : (q_X1_isGone V x2) = 0
    · rewrite [if_pos h2]; simp only [if_pos h2] at hR
      exact hR
    · rewrite [if_neg h2]; simp only [if_neg h2] at hR
      exact hR
def c_X1_goneOnes (V : MemV)  : Nat := cnt (fun k => (if (q_X1_isGone V (nI k)) = 0 then false else true)) 0 64
def ql_X1_goneOnes (V : MemV)  : Int32 := nI (c_X1_goneOnes V)
theorem l_X1_goneOnes {J : MJ} {m n : Nat} (hM : MemL J m n) (X : MI) (V : MemV)  : Ev T_X1_goneOnes 4 [some (mR (some m)), some (mI 0), some (mI 0)] [] (pt X m V, J) = some (some (mI (ql_X1_goneOnes V)), (pt X m V, J)) := by
  have step := loop_cnt (fun k c => Ev T_X1_goneOnes 4 [some (mR (some m)), some (mI (nI c)), some (mI (nI k))] [] (pt X m V, J)) (fun k => (if (q_X1_isGone V (nI k)) = 0 then false else true)) 64 (fun k c hk => by
    try dsimp only
    rw [P_X1_goneOnes_4 hM _ _ _ _, if_neg (show ¬ (64 : Int32) ≤ nI k from nI_ge hk (by decide))]
    try rw [ix_nI (by omega)]
    rw [nI_1 k]
    by_cases k1 : (q_X1_isGone V (nI k)) = 0
    ·
      simp [k1, nI_1]
    ·
      simp [k1, nI_1]) 64 0 0 (by omega)
  have h0 : (nI 0) = 0 := rfl
  try dsimp only at step
  rw [h0] at step
  rw [step, P_X1_goneOnes_4 hM _ _ _ _, if_pos (show (64 : Int32) ≤ nI 64 from Int32.le_refl _), Nat.zero_add]
  rfl
def q_X1_goneOnes (V : MemV)  : Int32 := ql_X1_goneOnes V
theorem s_X1_goneOnes {J : MJ} {m n : Nat} (hM : MemL J m n) (X : MI) (V : MemV)  : M_X1_goneOnes [mR (some m)] (pt X m V, J) = some (some (mI (q_X1_goneOnes V)), (pt X m V, J)) := by
  rw [P_X1_goneOnes hM]
  unfold q_X1_goneOnes
  exact l_X1_goneOnes hM _ _
theorem P_X1_mountedBits {J : MJ} {m n : Nat} (hM : MemL J m n) (X : MI) (V : MemV) : M_X1_mountedBits [mR (some m)] (pt X m V, J) = Ev T_X1_mountedBits 4 [some (mR (some m)), some (mI 0), some (mI 0)] [] (pt X m V, J) := by
  generalize hR : Ev T_X1_mountedBits 4 [some (mR (some m)), some (mI 0), some (mI 0)] [] (pt X m V, J) = R
  rw [E_X1_mountedBits]
  exact hR
theorem P_X1_mountedBits_4 {J : MJ} {m n : Nat} (hM : MemL J m n) (X : MI) (V : MemV) (x1 : Int32) (x2 : Int32) (h_x2 : ¬ x2 < 0) : Ev T_X1_mountedBits 4 [some (mR (some m)), some (mI x1), some (mI x2)] [] (pt X m V, J) = (if (3 : Int32) ≤ x2 then some (some (mI x1), (pt X m V, J)) else (if (V 9 (ix x2)) = ((-1)) then Ev T_X1_mountedBits 4 [some (mR (some m)), some (mI (x1 ||| 0)), some (mI (x2 + 1))] [] (pt X m V, J) else Ev T_X1_mountedBits 4 [some (mR (some m)), some (mI (x1 ||| (1 <<< (x2 &&& 31)))), some (mI (x2 + 1))] [] (pt X m V, J))) := by
  generalize hR : (if (3 : Int32) ≤ x2 then some (some (mI x1), (pt X m V, J)) else (if (V 9 (ix x2)) = ((-1)) then Ev T_X1_mountedBits 4 [some (mR (some m)), some (mI (x1 ||| 0)), some (mI (x2 + 1))] [] (pt X m V, J) else Ev T_X1_mountedBits 4 [some (mR (some m)), some (mI (x1 ||| (1 <<< (x2 &&& 31)))), some (mI (x2 + 1))] [] (pt X m V, J))) = R
  rw [E_X1_mountedBits_4]
  by_cases h1 : (3 : Int32) ≤ x2
  · rewrite [if_pos h1]; simp only [if_pos h1] at hR
    exact hR
  · rewrite [if_neg h1]; simp only [if_neg h1] at hR
    try rewrite [fR_ok 9 hM.k]
    try rewrite [Option.bind_some]
    try rewrite [hM.r9]
    try simp only [Option.bind_some]
    try rewrite [ld_ok _ hM.s9 (inb_of rfl h_x2 h1)]
    try rewrite [Option.bind_some]
    try rewrite [p12_9]
    by_cases h2 : (V 9 (ix x2)) = ((-1))
    · rewrite [if_pos h2]; simp only [if_pos h2] at hR
      exact hR
    · rewrite [if_neg h2]; simp only [if_neg h2] at hR
      exact hR
def lp_X1_mountedBits_4 (V : MemV) : Nat → Nat → Int32 → Int32
  | 0, k, x1 => (x1)
  | nn + 1, k, x1 => (if (V 9 k) = ((-1)) then lp_X1_mountedBits_4 V nn (k + 1) (x1 ||| 0) else lp_X1_mountedBits_4 V nn (k + 1) (x1 ||| (1 <<< ((nI k) &&& 31))))
theorem lr_X1_mountedBits_4 {J : MJ} {m n : Nat} (hM : MemL J m n) (X : MI) (V : MemV) : ∀ (nn k : Nat) (x1 : Int32), k + nn = 3 → Ev T_X1_mountedBits 4 [some (mR (some m)), some (mI x1), some (mI (nI k))] [] (pt X m V, J) = some (some (mI ((lp_X1_mountedBits_4 V nn k x1))), (pt X m V, J)) := by
  intro nn
  induction nn with
  | zero =>
    intro k x1 hk
    have hk : k = 3 := by omega
    subst hk
    generalize hR : some (some (mI ((lp_X1_mountedBits_4 V 0 3 x1))), (pt X m V, J)) = R
    rw [lp_X1_mountedBits_4] at hR
    rw [P_X1_mountedBits_4 hM _ _ _ _ (nI_pos (by omega)), if_pos (show (3 : Int32) ≤ nI 3 from Int32.le_refl _)]
    exact hR
  | succ nn ih =>
    intro k x1 hk
    generalize hR : some (some (mI ((lp_X1_mountedBits_4 V (nn + 1) k x1))), (pt X m V, J)) = R
    rw [lp_X1_mountedBits_4] at hR
    rw [P_X1_mountedBits_4 hM _ _ _ _ (nI_pos (by omega)), if_neg (show ¬ (3 : Int32) ≤ nI k from nI_ge (show k < 3 by omega) (by decide))]
    try rw [ix_nI (by omega)]
    rw [nI_1 k]
    by_cases k1 : (V 9 k) = ((-1))
    · rewrite [if_pos k1]; simp only [if_pos k1] at hR
      exact (ih (k + 1) _ (by omega)).trans hR
    · rewrite [if_neg k1]; simp only [if_neg k1] at hR
      exact (ih (k + 1) _ (by omega)).trans hR
def o_X1_mountedBits (V : MemV)  : Int32 := lp_X1_mountedBits_4 V 3 0 0
def q_X1_mountedBits (V : MemV)  : Int32 := (o_X1_mountedBits V)
theorem s_X1_mountedBits {J : MJ} {m n : Nat} (hM : MemL J m n) (X : MI) (V : MemV)  : M_X1_mountedBits [mR (some m)] (pt X m V, J) = some (some (mI (q_X1_mountedBits V)), (pt X m V, J)) := by
  generalize hR : some (some (mI (q_X1_mountedBits V)), (pt X m V, J)) = R
  rw [P_X1_mountedBits hM]
  unfold q_X1_mountedBits o_X1_mountedBits at hR
  exact (lr_X1_mountedBits_4 hM X _ _ 0 _ (by omega)).trans hR
def q_X1_tell (V : MemV) (x1 : Int32) (x2 : Int32) : Int32 := (if (q_X1_isEntry V x1) = 0 then (-1) else (if x2 = 0 then V 2 (ix x1) else (if x2 = 1 then V 4 (ix x1) else (if x2 = 2 then V 5 (ix x1) else (if x2 = 3 then V 6 (ix x1) else (if x2 = 4 then V 7 (ix x1) else (if x2 = 5 then V 8 (ix x1) else (if x2 = 6 then q_X1_coveringVolume V x1 else (if x2 = 7 then (if (V 1 (ix x1)) = 2 then 1 else 0) else (-1))))))))))
theorem s_X1_tell {J : MJ} {m n : Nat} (hM : MemL J m n) (X : MI) (V : MemV) (x1 : Int32) (x2 : Int32) : M_X1_tell [mR (some m), mI x1, mI x2] (pt X m V, J) = some (some (mI (q_X1_tell V x1 x2)), (pt X m V, J)) := by
  generalize hR : some (some (mI (q_X1_tell V x1 x2)), (pt X m V, J)) = R
  rw [E_X1_tell]
  unfold q_X1_tell at hR
  try simp only [Option.bind_some]
  rewrite [if_pos (show kd (pt X m V, J) m = 1 from hM.k)]
  rewrite [s_X1_isEntry hM]
  simp only [Option.bind_some, asI_I]
  by_cases h1 : (q_X1_isEntry V x1) = 0
  · rewrite [if_pos h1]; simp only [if_pos h1] at hR
    exact hR
  · rewrite [if_neg h1]; simp only [if_neg h1] at hR
    by_cases h2 : x2 = 0
    · rewrite [if_pos h2]; simp only [if_pos h2] at hR
      try rewrite [fR_ok 2 hM.k]
      try rewrite [Option.bind_some]
      try rewrite [hM.r2]
      try simp only [Option.bind_some]
      try rewrite [ld_ok _ hM.s2 (b_X1_isEntry_0 h1)]
      try rewrite [Option.bind_some]
      try rewrite [p12_2]
      exact hR
    · rewrite [if_neg h2]; simp only [if_neg h2] at hR
      by_cases h3 : x2 = 1
      · rewrite [if_pos h3]; simp only [if_pos h3] at hR
        try rewrite [fR_ok 4 hM.k]
        try rewrite [Option.bind_some]
        try rewrite [hM.r4]
        try simp only [Option.bind_some]
        try rewrite [ld_ok _ hM.s4 (b_X1_isEntry_0 h1)]
        try rewrite [Option.bind_some]
        try rewrite [p12_4]
        exact hR
      · rewrite [if_neg h3]; simp only [if_neg h3] at hR
        by_cases h4 : x2 = 2
        · rewrite [if_pos h4]; simp only [if_pos h4] at hR
          try rewrite [fR_ok 5 hM.k]
          try rewrite [Option.bind_some]
          try rewrite [hM.r5]
          try simp only [Option.bind_some]
          try rewrite [ld_ok _ hM.s5 (b_X1_isEntry_0 h1)]
          try rewrite [Option.bind_some]
          try rewrite [p12_5]
          exact hR
        · rewrite [if_neg h4]; simp only [if_neg h4] at hR
          by_cases h5 : x2 = 3
          · rewrite [if_pos h5]; simp only [if_pos h5] at hR
            try rewrite [fR_ok 6 hM.k]
            try rewrite [Option.bind_some]
            try rewrite [hM.r6]
            try simp only [Option.bind_some]
            try rewrite [ld_ok _ hM.s6 (b_X1_isEntry_0 h1)]
            try rewrite [Option.bind_some]
            try rewrite [p12_6]
            exact hR
          · rewrite [if_neg h5]; simp only [if_neg h5] at hR
            by_cases h6 : x2 = 4
            · rewrite [if_pos h6]; simp only [if_pos h6] at hR
              try rewrite [fR_ok 7 hM.k]
              try rewrite [Option.bind_some]
              try rewrite [hM.r7]
              try simp only [Option.bind_some]
              try rewrite [ld_ok _ hM.s7 (b_X1_isEntry_0 h1)]
              try rewrite [Option.bind_some]
              try rewrite [p12_7]
              exact hR
            · rewrite [if_neg h6]; simp only [if_neg h6] at hR
              by_cases h7 : x2 = 5
              · rewrite [if_pos h7]; simp only [if_pos h7] at hR
                try rewrite [fR_ok 8 hM.k]
                try rewrite [Option.bind_some]
                try rewrite [hM.r8]
                try simp only [Option.bind_some]
                try rewrite [ld_ok _ hM.s8 (b_X1_isEntry_0 h1)]
                try rewrite [Option.bind_some]
                try rewrite [p12_8]
                exact hR
              · rewrite [if_neg h7]; simp only [if_neg h7] at hR
                by_cases h8 : x2 = 6
                · rewrite [if_pos h8]; simp only [if_pos h8] at hR
                  try simp only [Option.bind_some]
                  rewrite [if_pos (show kd (pt X m V, J) m = 1 from hM.k)]
                  rewrite [s_X1_coveringVolume hM]
                  simp only [Option.bind_some, asI_I]
                  exact hR
                · rewrite [if_neg h8]; simp only [if_neg h8] at hR
                  by_cases h9 : x2 = 7
                  · rewrite [if_pos h9]; simp only [if_pos h9] at hR
                    try rewrite [fR_ok 1 hM.k]
                    try rewrite [Option.bind_some]
                    try rewrite [hM.r1]
                    try simp only [Option.bind_some]
                    try rewrite [ld_ok _ hM.s1 (b_X1_isEntry_0 h1)]
                    try rewrite [Option.bind_some]
                    try rewrite [p12_1]
                    by_cases h10 : (V 1 (ix x1)) = 2
                    · rewrite [if_pos h10]; simp only [if_pos h10] at hR
                      exact hR
                    · rewrite [if_neg h10]; simp only [if_neg h10] at hR
                      exact hR
                  · rewrite [if_neg h9]; simp only [if_neg h9] at hR
                    exact hR
end
section
/-! Routes, names in a text, walks. Written by gen/run3.py. -/
def gP_X4_clear (L : Nat) (P : RouV) : RouV := uv P 0 1 0
theorem s_X4_clear {J : MJ} {r L : Nat} (hP : RouL J r L) (X : MI) (P : RouV) : M_X4_clear [mR (some r)] (pt X r P, J) = some (none, (pt X r (gP_X4_clear L P), J)) := by
  generalize hR : some (none, (pt X r (gP_X4_clear L P), J)) = R
  rw [E_X4_clear]
  unfold gP_X4_clear at hR
  try rewrite [wI_ok 1 _ hP.k]
  try rewrite [Option.bind_some]
  try rewrite [u2_0]
  exact hR
def q_X4_stepAt (L : Nat) (P : RouV) (x1 : Int32) : Int32 := (if x1 < 0 then 0 else (if (P 0 1) ≤ x1 then 0 else (if (nI L) ≤ x1 then 0 else P 1 (ix x1))))
theorem s_X4_stepAt {J : MJ} {r L : Nat} (hP : RouL J r L) (X : MI) (P : RouV) (x1 : Int32) : M_X4_stepAt [mR (some r), mI x1] (pt X r P, J) = some (some (mI (q_X4_stepAt L P x1)), (pt X r P, J)) := by
  generalize hR : some (some (mI (q_X4_stepAt L P x1)), (pt X r P, J)) = R
  rw [E_X4_stepAt]
  unfold q_X4_stepAt at hR
  by_cases h1 : x1 < 0
  · rewrite [if_pos h1]; simp only [if_pos h1] at hR
    exact hR
  · rewrite [if_neg h1]; simp only [if_neg h1] at hR
    try rewrite [fI_ok 1 hP.k]
    try rewrite [Option.bind_some]
    try rewrite [p2_0]
    by_cases h2 : (P 0 1) ≤ x1
    · rewrite [if_pos h2]; simp only [if_pos h2] at hR
      exact hR
    · rewrite [if_neg h2]; simp only [if_neg h2] at hR
      try rewrite [fR_ok 0 hP.k]
      try rewrite [Option.bind_some]
      try rewrite [hP.r1]
      try simp only [Option.bind_some]
      try rewrite [aln_ok hP.s1 (by decide)]
      try rewrite [Option.bind_some]
      by_cases h3 : (nI L) ≤ x1
      · rewrite [if_pos h3]; simp only [if_pos h3] at hR
        exact hR
      · rewrite [if_neg h3]; simp only [if_neg h3] at hR
        try rewrite [fR_ok 0 hP.k]
        try rewrite [Option.bind_some]
        try rewrite [hP.r1]
        try simp only [Option.bind_some]
        try rewrite [ld_ok _ hP.s1 (inb_of (nI_toInt (by have := hP.b; omega)) h1 h3)]
        try rewrite [Option.bind_some]
        try rewrite [p2_1]
        exact hR
def q_X4_push (L : Nat) (P : RouV) (x1 : Int32) : Int32 := (if (P 0 1) < 0 then 0 else (if (P 0 1) < (nI L) then 1 else 0))
def gP_X4_push (L : Nat) (P : RouV) (x1 : Int32) : RouV := (if (P 0 1) < 0 then P else (if (P 0 1) < (nI L) then uv (uv P 1 (ix (P 0 1)) x1) 0 1 ((P 0 1) + 1) else P))
theorem s_X4_push {J : MJ} {r L : Nat} (hP : RouL J r L) (X : MI) (P : RouV) (x1 : Int32) : M_X4_push [mR (some r), mI x1] (pt X r P, J) = some (some (mI (q_X4_push L P x1)), (pt X r (gP_X4_push L P x1), J)) := by
  generalize hR : some (some (mI (q_X4_push L P x1)), (pt X r (gP_X4_push L P x1), J)) = R
  rw [E_X4_push]
  unfold q_X4_push gP_X4_push at hR
  try rewrite [fI_ok 1 hP.k]
  try rewrite [Option.bind_some]
  try rewrite [p2_0]
  by_cases h1 : (P 0 1) < 0
  · rewrite [if_pos h1]; simp only [if_pos h1] at hR
    first | exact hR | (simp only [if_pos (show (0 : Int32) = 0 ∨ (0 : Int32) = 1 by decide), if_pos (show (1 : Int32) = 0 ∨ (1 : Int32) = 1 by decide)]; exact hR) | (simp; exact hR)
  · rewrite [if_neg h1]; simp only [if_neg h1] at hR
    try rewrite [fI_ok 1 hP.k]
    try rewrite [Option.bind_some]
    try rewrite [p2_0]
    try rewrite [fR_ok 0 hP.k]
    try rewrite [Option.bind_some]
    try rewrite [hP.r1]
    try simp only [Option.bind_some]
    try rewrite [aln_ok hP.s1 (by decide)]
    try rewrite [Option.bind_some]
    by_cases h2 : (P 0 1) < (nI L)
    · rewrite [if_pos h2]; simp only [if_pos h2] at hR
      try rewrite [fR_ok 0 hP.k]
      try rewrite [Option.bind_some]
      try rewrite [hP.r1]
      try rewrite [fI_ok 1 hP.k]
      try rewrite [Option.bind_some]
      try rewrite [p2_0]
      try simp only [Option.bind_some]
      try rewrite [st_ok _ _ hP.s1 (inb_of (nI_toInt (by have := hP.b; omega)) h1 (Int32.not_le.mpr h2))]
      try rewrite [Option.bind_some]
      try rewrite [u2_1]
      try rewrite [fI_ok 1 hP.k]
      try rewrite [Option.bind_some]
      try rewrite [p2_0]
      try rewrite [uv_k _ _ _ _ _ (by decide)]
      try rewrite [wI_ok 1 _ hP.k]
      try rewrite [Option.bind_some]
      try rewrite [u2_0]
      first | exact hR | (simp only [if_pos (show (0 : Int32) = 0 ∨ (0 : Int32) = 1 by decide), if_pos (show (1 : Int32) = 0 ∨ (1 : Int32) = 1 by decide)]; exact hR) | (simp; exact hR)
    · rewrite [if_neg h2]; simp only [if_neg h2] at hR
      first | exact hR | (simp only [if_pos (show (0 : Int32) = 0 ∨ (0 : Int32) = 1 by decide), if_pos (show (1 : Int32) = 0 ∨ (1 : Int32) = 1 by decide)]; exact hR) | (simp; exact hR)
def q_X4_last (L : Nat) (P : RouV) : Int32 := q_X4_stepAt L P ((P 0 1) - 1)
theorem s_X4_last {J : MJ} {r L : Nat} (hP : RouL J r L) (X : MI) (P : RouV) : M_X4_last [mR (some r)] (pt X r P, J) = some (some (mI (q_X4_last L P)), (pt X r P, J)) := by
  generalize hR : some (some (mI (q_X4_last L P)), (pt X r P, J)) = R
  rw [E_X4_last]
  unfold q_X4_last at hR
  try rewrite [fI_ok 1 hP.k]
  try rewrite [Option.bind_some]
  try rewrite [p2_0]
  try simp only [Option.bind_some]
  rewrite [if_pos (show kd (pt X r P, J) r = 4 from hP.k)]
  rewrite [s_X4_stepAt hP]
  simp only [Option.bind_some, asI_I]
  exact hR
theorem P_X4_copyFrom {J : MJ} {r2 L2 r L : Nat} (hP2 : RouL J r2 L2) (hP : RouL J r L) (d_P2P : r2 + 2 ≤ r ∨ r + 2 ≤ r2) (X : MI) (P2 : RouV) (P : RouV) : M_X4_copyFrom [mR (some r), mR (some r2)] (pt (pt X r2 P2) r P, J) = Ev T_X4_copyFrom 7 [some (mR (some r)), some (mR (some r2)), some (mI 0)] [] (pt (pt X r2 P2) r (uv P 0 1 0), J) := by
  generalize hR : Ev T_X4_copyFrom 7 [some (mR (some r)), some (mR (some r2)), some (mI 0)] [] (pt (pt X r2 P2) r (uv P 0 1 0), J) = R
  rw [E_X4_copyFrom]
  try rewrite [wI_ok 1 _ hP.k]
  try rewrite [Option.bind_some]
  try rewrite [u2_0]
  exact hR
theorem P_X4_copyFrom_7 {J : MJ} {r2 L2 r L : Nat} (hP2 : RouL J r2 L2) (hP : RouL J r L) (d_P2P : r2 + 2 ≤ r ∨ r + 2 ≤ r2) (X : MI) (P2 : RouV) (P : RouV) (x2 : Int32) : Ev T_X4_copyFrom 7 [some (mR (some r)), some (mR (some r2)), some (mI x2)] [] (pt (pt X r2 P2) r P, J) = (if (P2 0 1) ≤ x2 then some (none, (pt (pt X r2 P2) r P, J)) else Ev T_X4_copyFrom 7 [some (mR (some r)), some (mR (some r2)), some (mI (x2 + 1))] [] (pt (pt X r2 P2) r (gP_X4_push L P (q_X4_stepAt L2 P2 x2)), J)) := by
  generalize hR : (if (P2 0 1) ≤ x2 then some (none, (pt (pt X r2 P2) r P, J)) else Ev T_X4_copyFrom 7 [some (mR (some r)), some (mR (some r2)), some (mI (x2 + 1))] [] (pt (pt X r2 P2) r (gP_X4_push L P (q_X4_stepAt L2 P2 x2)), J)) = R
  rw [E_X4_copyFrom_7]
  try rewrite [fI_ok 1 hP2.k]
  try rewrite [Option.bind_some]
  try rewrite [pt_out (x := r2) (a := r) (by have := d_P2P; omega)]
  try rewrite [p2_0]
  by_cases h1 : (P2 0 1) ≤ x2
  · rewrite [if_pos h1]; simp only [if_pos h1] at hR
    exact hR
  · rewrite [if_neg h1]; simp only [if_neg h1] at hR
    try simp only [Option.bind_some]
    rewrite [if_pos (show kd (pt (pt X r2 P2) r P, J) r2 = 4 from hP2.k)]
    rw [pt_comm X P2 P d_P2P]
    rw [s_X4_stepAt hP2]
    rw [pt_comm X P P2 (Or.symm d_P2P)]
    simp only [Option.bind_some, asI_I]
    try simp only [Option.bind_some]
    rewrite [if_pos (show kd (pt (pt X r2 P2) r P, J) r = 4 from hP.k)]
    rewrite [s_X4_push hP]
    simp only [Option.bind_some, asI_I]
    exact hR
def lp_X4_copyFrom_7 (L2 : Nat) (L : Nat) (P2 : RouV) : Nat → Nat → RouV → RouV
  | 0, k, P => (P)
  | nn + 1, k, P => lp_X4_copyFrom_7 L2 L P2 nn (k + 1) (gP_X4_push L P (q_X4_stepAt L2 P2 (nI k)))
theorem lr_X4_copyFrom_7 {J : MJ} {r2 L2 r L : Nat} (hP2 : RouL J r2 L2) (hP : RouL J r L) (d_P2P : r2 + 2 ≤ r ∨ r + 2 ≤ r2) (X : MI) (P2 : RouV) : ∀ (nn k : Nat) (P : RouV), k + nn = (ix (P2 0 1)) → Ev T_X4_copyFrom 7 [some (mR (some r)), some (mR (some r2)), some (mI (nI k))] [] (pt (pt X r2 P2) r P, J) = some (none, (pt (pt X r2 P2) r ((lp_X4_copyFrom_7 L2 L P2 nn k P)), J)) := by
  intro nn
  induction nn with
  | zero =>
    intro k P hk
    have hk : k = (ix (P2 0 1)) := by omega
    subst hk
    generalize hR : some (none, (pt (pt X r2 P2) r ((lp_X4_copyFrom_7 L2 L P2 0 (ix (P2 0 1)) P)), J)) = R
    rw [lp_X4_copyFrom_7] at hR
    rw [P_X4_copyFrom_7 hP2 hP d_P2P _ _ _ _, if_pos ((le_nI (ix_lt (P2 0 1))).mpr (Nat.le_refl _))]
    exact hR
  | succ nn ih =>
    intro k P hk
    generalize hR : some (none, (pt (pt X r2 P2) r ((lp_X4_copyFrom_7 L2 L P2 (nn + 1) k P)), J)) = R
    rw [lp_X4_copyFrom_7] at hR
    rw [P_X4_copyFrom_7 hP2 hP d_P2P _ _ _ _, if_neg (fun h => by have h2 := (le_nI (by have := ix_lt (P2 0 1); omega)).mp h; omega)]
    try rw [ix_nI (by have := ix_lt (P2 0 1); omega)]
    rw [nI_1 k]
    exact (ih (k + 1) _ (by omega)).trans hR
def o_X4_copyFrom (L2 : Nat) (L : Nat) (P2 : RouV) (P : RouV)  : RouV := lp_X4_copyFrom_7 L2 L P2 (ix ((P2 0 1))) 0 (uv P 0 1 0)
def gP_X4_copyFrom (L2 : Nat) (L : Nat) (P2 : RouV) (P : RouV)  : RouV := (o_X4_copyFrom L2 L P2 P)
theorem s_X4_copyFrom {J : MJ} {r2 L2 r L : Nat} (hP2 : RouL J r2 L2) (hP : RouL J r L) (d_P2P : r2 + 2 ≤ r ∨ r + 2 ≤ r2) (X : MI) (P2 : RouV) (P : RouV)  : M_X4_copyFrom [mR (some r), mR (some r2)] (pt (pt X r2 P2) r P, J) = some (none, (pt (pt X r2 P2) r ((gP_X4_copyFrom L2 L P2 P)), J)) := by
  generalize hR : some (none, (pt (pt X r2 P2) r ((gP_X4_copyFrom L2 L P2 P)), J)) = R
  rw [P_X4_copyFrom hP2 hP d_P2P]
  unfold gP_X4_copyFrom o_X4_copyFrom at hR
  exact (lr_X4_copyFrom_7 hP2 hP d_P2P X _ _ 0 _ (by omega)).trans hR
theorem P_X4_turnAround {J : MJ} {r L : Nat} (hP : RouL J r L) (X : MI) (P : RouV) : M_X4_turnAround [mR (some r)] (pt X r P, J) = Ev T_X4_turnAround 9 [some (mR (some r)), some (mI 0), some (mI ((P 0 1) - 1)), none] [] (pt X r P, J) := by
  generalize hR : Ev T_X4_turnAround 9 [some (mR (some r)), some (mI 0), some (mI ((P 0 1) - 1)), none] [] (pt X r P, J) = R
  rw [E_X4_turnAround]
  try rewrite [fI_ok 1 hP.k]
  try rewrite [Option.bind_some]
  try rewrite [p2_0]
  exact hR
theorem P_X4_turnAround_9 {J : MJ} {r L : Nat} (hP : RouL J r L) (X : MI) (P : RouV) (x1 : Int32) (x2 : Int32) (h_x1 : ¬ x1 < 0) (h_x2 : ¬ x2 < 0) (hb_x1 : inb x1 L) : Ev T_X4_turnAround 9 [some (mR (some r)), some (mI x1), some (mI x2), none] [] (pt X r P, J) = (if x2 ≤ x1 then some (none, (pt X r P, J)) else (if (nI L) ≤ x2 then some (none, (pt X r P, J)) else Ev T_X4_turnAround 9 [some (mR (some r)), some (mI (x1 + 1)), some (mI (x2 + (-1))), none] [] (pt X r (uv (uv P 1 (ix x1) (P 1 (ix x2))) 1 (ix x2) (P 1 (ix x1))), J))) := by
  generalize hR : (if x2 ≤ x1 then some (none, (pt X r P, J)) else (if (nI L) ≤ x2 then some (none, (pt X r P, J)) else Ev T_X4_turnAround 9 [some (mR (some r)), some (mI (x1 + 1)), some (mI (x2 + (-1))), none] [] (pt X r (uv (uv P 1 (ix x1) (P 1 (ix x2))) 1 (ix x2) (P 1 (ix x1))), J))) = R
  rw [E_X4_turnAround_9]
  try rewrite [if_neg h_x1]
  by_cases h1 : x2 ≤ x1
  · rewrite [if_pos h1]; simp only [if_pos h1] at hR
    exact hR
  · rewrite [if_neg h1]; simp only [if_neg h1] at hR
    try rewrite [fR_ok 0 hP.k]
    try rewrite [Option.bind_some]
    try rewrite [hP.r1]
    try simp only [Option.bind_some]
    try rewrite [aln_ok hP.s1 (by decide)]
    try rewrite [Option.bind_some]
    by_cases h2 : (nI L) ≤ x2
    · rewrite [if_pos h2]; simp only [if_pos h2] at hR
      exact hR
    · rewrite [if_neg h2]; simp only [if_neg h2] at hR
      try rewrite [fR_ok 0 hP.k]
      try rewrite [Option.bind_some]
      try rewrite [hP.r1]
      try simp only [Option.bind_some]
      try rewrite [ld_ok _ hP.s1 hb_x1]
      try rewrite [Option.bind_some]
      try rewrite [p2_1]
      try rewrite [fR_ok 0 hP.k]
      try rewrite [Option.bind_some]
      try rewrite [hP.r1]
      try rewrite [fR_ok 0 hP.k]
      try rewrite [Option.bind_some]
      try rewrite [hP.r1]
      try simp only [Option.bind_some]
      try rewrite [ld_ok _ hP.s1 (inb_of (nI_toInt (by have := hP.b; omega)) h_x2 h2)]
      try rewrite [Option.bind_some]
      try rewrite [p2_1]
      try simp only [Option.bind_some]
      try rewrite [st_ok _ _ hP.s1 hb_x1]
      try rewrite [Option.bind_some]
      try rewrite [u2_1]
      try rewrite [fR_ok 0 hP.k]
      try rewrite [Option.bind_some]
      try rewrite [hP.r1]
      try simp only [Option.bind_some]
      try rewrite [st_ok _ _ hP.s1 (inb_of (nI_toInt (by have := hP.b; omega)) h_x2 h2)]
      try rewrite [Option.bind_some]
      try rewrite [u2_1]
      exact hR
def q_X9_isLetter (x0 : Int32) : Int32 := (if x0 < 97 then 0 else (if (122 : Int32) < x0 then 0 else 1))
theorem s_X9_isLetter {J : MJ} (X : MI) (x0 : Int32) : M_X9_isLetter [mI x0] (X, J) = some (some (mI (q_X9_isLetter x0)), (X, J)) := by
  generalize hR : some (some (mI (q_X9_isLetter x0)), (X, J)) = R
  rw [E_X9_isLetter]
  unfold q_X9_isLetter at hR
  by_cases h1 : x0 < 97
  · rewrite [if_pos h1]; simp only [if_pos h1] at hR
    first | exact hR | (simp only [if_pos (show (0 : Int32) = 0 ∨ (0 : Int32) = 1 by decide), if_pos (show (1 : Int32) = 0 ∨ (1 : Int32) = 1 by decide)]; exact hR) | (simp; exact hR)
  · rewrite [if_neg h1]; simp only [if_neg h1] at hR
    by_cases h2 : (122 : Int32) < x0
    · rewrite [if_pos h2]; simp only [if_pos h2] at hR
      first | exact hR | (simp only [if_pos (show (0 : Int32) = 0 ∨ (0 : Int32) = 1 by decide), if_pos (show (1 : Int32) = 0 ∨ (1 : Int32) = 1 by decide)]; exact hR) | (simp; exact hR)
    · rewrite [if_neg h2]; simp only [if_neg h2] at hR
      first | exact hR | (simp only [if_pos (show (0 : Int32) = 0 ∨ (0 : Int32) = 1 by decide), if_pos (show (1 : Int32) = 0 ∨ (1 : Int32) = 1 by decide)]; exact hR) | (simp; exact hR)
def q_X9_letterOf (x0 : Int32) (x1 : Int32) : Int32 := (x0 >>> ((5 * x1) &&& 31)) &&& 31
theorem s_X9_letterOf {J : MJ} (X : MI) (x0 : Int32) (x1 : Int32) : M_X9_letterOf [mI x0, mI x1] (X, J) = some (some (mI (q_X9_letterOf x0 x1)), (X, J)) := by
  generalize hR : some (some (mI (q_X9_letterOf x0 x1)), (X, J)) = R
  rw [E_X9_letterOf]
  unfold q_X9_letterOf at hR
  exact hR
theorem P_X9_nameBetween {J : MJ} {t : Nat} (hT : TapL J t) (X : MI) (Q : RouV) (x1 : Int32) (x2 : Int32) : M_X9_nameBetween [mR (some t), mI x1, mI x2] (pt X t Q, J) = (if (x2 - x1) < 1 then some (some (mI 0), (pt X t Q, J)) else (if (x2 - x1) ≤ 4 then Ev T_X9_nameBetween 22 [some (mR (some t)), some (mI x1), none, some (mI (x2 - x1)), some (mI 0), some (mI 0), none] [] (pt X t Q, J) else some (some (mI 0), (pt X t Q, J)))) := by
  generalize hR : (if (x2 - x1) < 1 then some (some (mI 0), (pt X t Q, J)) else (if (x2 - x1) ≤ 4 then Ev T_X9_nameBetween 22 [some (mR (some t)), some (mI x1), none, some (mI (x2 - x1)), some (mI 0), some (mI 0), none] [] (pt X t Q, J) else some (some (mI 0), (pt X t Q, J)))) = R
  rw [E_X9_nameBetween]
  by_cases h1 : (x2 - x1) < 1
  · rewrite [if_pos h1]; simp only [if_pos h1] at hR
    exact hR
  · rewrite [if_neg h1]; simp only [if_neg h1] at hR
    by_cases h2 : (x2 - x1) ≤ 4
    · rewrite [if_pos h2]; simp only [if_pos h2] at hR
      exact hR
    · rewrite [if_neg h2]; simp only [if_neg h2] at hR
      exact hR
theorem P_X9_nameBetween_22 {J : MJ} {t : Nat} (hT : TapL J t) (X : MI) (Q : RouV) (x1 : Int32) (x3 : Int32) (x4 : Int32) (x5 : Int32) : Ev T_X9_nameBetween 22 [some (mR (some t)), some (mI x1), none, some (mI x3), some (mI x4), some (mI x5), none] [] (pt X t Q, J) = (if x3 ≤ x5 then some (some (mI x4), (pt X t Q, J)) else (if (q_X9_isLetter (q_X5_at Q (x1 + x5))) = 0 then some (some (mI 0), (pt X t Q, J)) else Ev T_X9_nameBetween 22 [some (mR (some t)), some (mI x1), none, some (mI x3), some (mI (x4 ||| ((((q_X5_at Q (x1 + x5)) - 97) + 1) <<< ((5 * x5) &&& 31)))), some (mI (x5 + 1)), none] [] (pt X t Q, J))) := by
  generalize hR : (if x3 ≤ x5 then some (some (mI x4), (pt X t Q, J)) else (if (q_X9_isLetter (q_X5_at Q (x1 + x5))) = 0 then some (some (mI 0), (pt X t Q, J)) else Ev T_X9_nameBetween 22 [some (mR (some t)), some (mI x1), none, some (mI x3), some (mI (x4 ||| ((((q_X5_at Q (x1 + x5)) - 97) + 1) <<< ((5 * x5) &&& 31)))), some (mI (x5 + 1)), none] [] (pt X t Q, J))) = R
  rw [E_X9_nameBetween_22]
  by_cases h1 : x3 ≤ x5
  · rewrite [if_pos h1]; simp only [if_pos h1] at hR
    exact hR
  · rewrite [if_neg h1]; simp only [if_neg h1] at hR
    try simp only [Option.bind_some]
    rewrite [if_pos (show kd (pt X t Q, J) t = 5 from hT.k)]
    rewrite [s_X5_at hT]
    simp only [Option.bind_some, asI_I]
    try simp only [Option.bind_some]
    rewrite [s_X9_isLetter ]
    simp only [Option.bind_some, asI_I]
    by_cases h2 : (q_X9_isLetter (q_X5_at Q (x1 + x5))) = 0
    · rewrite [if_pos h2]; simp only [if_pos h2] at hR
      exact hR
    · rewrite [if_neg h2]; simp only [if_neg h2] at hR
      exact hR
def lp_X9_nameBetween_22 (Q : RouV) (x1 : Int32) (x3 : Int32) : Nat → Nat → Int32 → Int32
  | 0, k, x4 => (x4)
  | nn + 1, k, x4 => (if (q_X9_isLetter (q_X5_at Q (x1 + (nI k)))) = 0 then (0) else lp_X9_nameBetween_22 Q x1 x3 nn (k + 1) (x4 ||| ((((q_X5_at Q (x1 + (nI k))) - 97) + 1) <<< ((5 * (nI k)) &&& 31))))
theorem lr_X9_nameBetween_22 {J : MJ} {t : Nat} (hT : TapL J t) (X : MI) (Q : RouV) (x1 : Int32) (x3 : Int32) : ∀ (nn k : Nat) (x4 : Int32), k + nn = (ix x3) → Ev T_X9_nameBetween 22 [some (mR (some t)), some (mI x1), none, some (mI x3), some (mI x4), some (mI (nI k)), none] [] (pt X t Q, J) = some (some (mI ((lp_X9_nameBetween_22 Q x1 x3 nn k x4))), (pt X t Q, J)) := by
  intro nn
  induction nn with
  | zero =>
    intro k x4 hk
    have hk : k = (ix x3) := by omega
    subst hk
    generalize hR : some (some (mI ((lp_X9_nameBetween_22 Q x1 x3 0 (ix x3) x4))), (pt X t Q, J)) = R
    rw [lp_X9_nameBetween_22] at hR
    rw [P_X9_nameBetween_22 hT _ _ _ _ _ _, if_pos ((le_nI (ix_lt x3)).mpr (Nat.le_refl _))]
    exact hR
  | succ nn ih =>
    intro k x4 hk
    generalize hR : some (some (mI ((lp_X9_nameBetween_22 Q x1 x3 (nn + 1) k x4))), (pt X t Q, J)) = R
    rw [lp_X9_nameBetween_22] at hR
    rw [P_X9_nameBetween_22 hT _ _ _ _ _ _, if_neg (fun h => by have h2 := (le_nI (by have := ix_lt x3; omega)).mp h; omega)]
    try rw [ix_nI (by have := ix_lt x3; omega)]
    rw [nI_1 k]
    by_cases k1 : (q_X9_isLetter (q_X5_at Q (x1 + (nI k)))) = 0
    · rewrite [if_pos k1]; simp only [if_pos k1] at hR
      exact hR
    · rewrite [if_neg k1]; simp only [if_neg k1] at hR
      exact (ih (k + 1) _ (by omega)).trans hR
def o_X9_nameBetween (Q : RouV) (x1 : Int32) (x2 : Int32) : Int32 := (if (x2 - x1) < 1 then (0) else (if (x2 - x1) ≤ 4 then lp_X9_nameBetween_22 Q x1 (x2 - x1) (ix ((x2 - x1))) 0 0 else (0)))
def q_X9_nameBetween (Q : RouV) (x1 : Int32) (x2 : Int32) : Int32 := (o_X9_nameBetween Q x1 x2)
theorem s_X9_nameBetween {J : MJ} {t : Nat} (hT : TapL J t) (X : MI) (Q : RouV) (x1 : Int32) (x2 : Int32) : M_X9_nameBetween [mR (some t), mI x1, mI x2] (pt X t Q, J) = some (some (mI (q_X9_nameBetween Q x1 x2)), (pt X t Q, J)) := by
  generalize hR : some (some (mI (q_X9_nameBetween Q x1 x2)), (pt X t Q, J)) = R
  rw [P_X9_nameBetween hT]
  unfold q_X9_nameBetween o_X9_nameBetween at hR
  by_cases k1 : (x2 - x1) < 1
  · rewrite [if_pos k1]; simp only [if_pos k1] at hR
    exact hR
  · rewrite [if_neg k1]; simp only [if_neg k1] at hR
    by_cases k2 : (x2 - x1) ≤ 4
    · rewrite [if_pos k2]; simp only [if_pos k2] at hR
      exact (lr_X9_nameBetween_22 hT X _ _ _ _ 0 _ (by omega)).trans hR
    · rewrite [if_neg k2]; simp only [if_neg k2] at hR
      exact hR
def q_X9_stepBetween (Q : RouV) (x1 : Int32) (x2 : Int32) : Int32 := (if (q_X5_at Q x1) = 46 then (if (x2 - x1) = 1 then (-1) else (if (x2 - x1) = 2 then (if (q_X5_at Q (x1 + 1)) = 46 then (-2) else q_X9_nameBetween Q x1 x2) else q_X9_nameBetween Q x1 x2)) else q_X9_nameBetween Q x1 x2)
theorem s_X9_stepBetween {J : MJ} {t : Nat} (hT : TapL J t) (X : MI) (Q : RouV) (x1 : Int32) (x2 : Int32) : M_X9_stepBetween [mR (some t), mI x1, mI x2] (pt X t Q, J) = some (some (mI (q_X9_stepBetween Q x1 x2)), (pt X t Q, J)) := by
  generalize hR : some (some (mI (q_X9_stepBetween Q x1 x2)), (pt X t Q, J)) = R
  rw [E_X9_stepBetween]
  unfold q_X9_stepBetween at hR
  try simp only [Option.bind_some]
  rewrite [if_pos (show kd (pt X t Q, J) t = 5 from hT.k)]
  rewrite [s_X5_at hT]
  simp only [Option.bind_some, asI_I]
  by_cases h1 : (q_X5_at Q x1) = 46
  · rewrite [if_pos h1]; simp only [if_pos h1] at hR
    first | rewrite [if_neg (show ¬ ((1 : Int32) = 0) by decide)] | rewrite [if_neg not_false] | simp only [if_false]
    by_cases h2 : (x2 - x1) = 1
    · rewrite [if_pos h2]; simp only [if_pos h2] at hR
      exact hR
    · rewrite [if_neg h2]; simp only [if_neg h2] at hR
      first | rewrite [if_neg (show ¬ ((1 : Int32) = 0) by decide)] | rewrite [if_neg not_false] | simp only [if_false]
      by_cases h3 : (x2 - x1) = 2
      · rewrite [if_pos h3]; simp only [if_pos h3] at hR
        try simp only [Option.bind_some]
        rewrite [if_pos (show kd (pt X t Q, J) t = 5 from hT.k)]
        rewrite [s_X5_at hT]
        simp only [Option.bind_some, asI_I]
        by_cases h4 : (q_X5_at Q (x1 + 1)) = 46
        · rewrite [if_pos h4]; simp only [if_pos h4] at hR
          exact hR
        · rewrite [if_neg h4]; simp only [if_neg h4] at hR
          try simp only [Option.bind_some]
          rewrite [s_X9_nameBetween hT]
          simp only [Option.bind_some, asI_I]
          exact hR
      · rewrite [if_neg h3]; simp only [if_neg h3] at hR
        try simp only [Option.bind_some]
        rewrite [s_X9_nameBetween hT]
        simp only [Option.bind_some, asI_I]
        exact hR
  · rewrite [if_neg h1]; simp only [if_neg h1] at hR
    first | rewrite [if_pos (show (0 : Int32) = 0 by decide)] | rewrite [if_pos trivial] | simp only [if_true]
    first | rewrite [if_pos (show (0 : Int32) = 0 by decide)] | rewrite [if_pos trivial] | simp only [if_true]
    try simp only [Option.bind_some]
    rewrite [s_X9_nameBetween hT]
    simp only [Option.bind_some, asI_I]
    exact hR
theorem P_X4_endOfStep {J : MJ} {t : Nat} (hT : TapL J t) (X : MI) (Q : RouV) (x1 : Int32) (x2 : Int32) : M_X4_endOfStep [mR (some t), mI x1, mI x2] (pt X t Q, J) = Ev T_X4_endOfStep 2 [some (mR (some t)), none, some (mI x2), some (mI x1)] [] (pt X t Q, J) := by
  generalize hR : Ev T_X4_endOfStep 2 [some (mR (some t)), none, some (mI x2), some (mI x1)] [] (pt X t Q, J) = R
  rw [E_X4_endOfStep]
  exact hR
theorem P_X4_endOfStep_2 {J : MJ} {t : Nat} (hT : TapL J t) (X : MI) (Q : RouV) (x2 : Int32) (x3 : Int32) : Ev T_X4_endOfStep 2 [some (mR (some t)), none, some (mI x2), some (mI x3)] [] (pt X t Q, J) = (if x2 ≤ x3 then some (some (mI x3), (pt X t Q, J)) else (if (q_X5_at Q x3) = 47 then some (some (mI x3), (pt X t Q, J)) else Ev T_X4_endOfStep 2 [some (mR (some t)), none, some (mI x2), some (mI (x3 + 1))] [] (pt X t Q, J))) := by
  generalize hR : (if x2 ≤ x3 then some (some (mI x3), (pt X t Q, J)) else (if (q_X5_at Q x3) = 47 then some (some (mI x3), (pt X t Q, J)) else Ev T_X4_endOfStep 2 [some (mR (some t)), none, some (mI x2), some (mI (x3 + 1))] [] (pt X t Q, J))) = R
  rw [E_X4_endOfStep_2]
  by_cases h1 : x2 ≤ x3
  · rewrite [if_pos h1]; simp only [if_pos h1] at hR
    exact hR
  · rewrite [if_neg h1]; simp only [if_neg h1] at hR
    try simp only [Option.bind_some]
    rewrite [if_pos (show kd (pt X t Q, J) t = 5 from hT.k)]
    rewrite [s_X5_at hT]
    simp only [Option.bind_some, asI_I]
    by_cases h2 : (q_X5_at Q x3) = 47
    · rewrite [if_pos h2]; simp only [if_pos h2] at hR
      exact hR
    · rewrite [if_neg h2]; simp only [if_neg h2] at hR
      exact hR
theorem P_X1_walk {J : MJ} {r L n m : Nat} (hP : RouL J r L) (hN : NodL J n) (hM : MemL J m n) (d_PU : r + 2 ≤ n ∨ n + 6 ≤ r) (d_PV : r + 2 ≤ m ∨ m + 12 ≤ r) (d_UV : n + 6 ≤ m ∨ m + 12 ≤ n) (X : MI) (P : RouV) (U : NodV) (V : MemV) (x2 : Int32) : M_X1_walk [mR (some m), mR (some r), mI x2] (pt (pt (pt X r P) n U) m V, J) = Ev T_X1_walk 8 [some (mR (some m)), some (mR (some r)), some (mI x2), some (mI (q_X1_comeToRoot V)), some (mI 0)] [] (pt (pt (pt X r P) n U) m (gV_X1_comeToRoot V), J) := by
  generalize hR : Ev T_X1_walk 8 [some (mR (some m)), some (mR (some r)), some (mI x2), some (mI (q_X1_comeToRoot V)), some (mI 0)] [] (pt (pt (pt X r P) n U) m (gV_X1_comeToRoot V), J) = R
  rw [E_X1_walk]
  try simp only [Option.bind_some]
  rewrite [if_pos (show kd (pt (pt (pt X r P) n U) m V, J) m = 1 from hM.k)]
  rewrite [s_X1_comeToRoot hM]
  simp only [Option.bind_some, asI_I]
  exact hR
theorem P_X1_walk_8 {J : MJ} {r L n m : Nat} (hP : RouL J r L) (hN : NodL J n) (hM : MemL J m n) (d_PU : r + 2 ≤ n ∨ n + 6 ≤ r) (d_PV : r + 2 ≤ m ∨ m + 12 ≤ r) (d_UV : n + 6 ≤ m ∨ m + 12 ≤ n) (X : MI) (P : RouV) (U : NodV) (V : MemV) (x2 : Int32) (x3 : Int32) (x4 : Int32) : Ev T_X1_walk 8 [some (mR (some m)), some (mR (some r)), some (mI x2), some (mI x3), some (mI x4)] [] (pt (pt (pt X r P) n U) m V, J) = (if x2 ≤ x4 then some (some (mI x3), (pt (pt (pt X r P) n U) m V, J)) else (if x3 < 0 then some (some (mI x3), (pt (pt (pt X r P) n U) m V, J)) else Ev T_X1_walk 8 [some (mR (some m)), some (mR (some r)), some (mI x2), some (mI (q_X1_stepFrom U V x3 (q_X4_stepAt L P x4))), some (mI (x4 + 1))] [] (pt (pt (pt X r P) n U) m (gV_X1_stepFrom U V x3 (q_X4_stepAt L P x4)), J))) := by
  generalize hR : (if x2 ≤ x4 then some (some (mI x3), (pt (pt (pt X r P) n U) m V, J)) else (if x3 < 0 then some (some (mI x3), (pt (pt (pt X r P) n U) m V, J)) else Ev T_X1_walk 8 [some (mR (some m)), some (mR (some r)), some (mI x2), some (mI (q_X1_stepFrom U V x3 (q_X4_stepAt L P x4))), some (mI (x4 + 1))] [] (pt (pt (pt X r P) n U) m (gV_X1_stepFrom U V x3 (q_X4_stepAt L P x4)), J))) = R
  rw [E_X1_walk_8]
  by_cases h1 : x2 ≤ x4
  · rewrite [if_pos h1]; simp only [if_pos h1] at hR
    exact hR
  · rewrite [if_neg h1]; simp only [if_neg h1] at hR
    by_cases h2 : x3 < 0
    · rewrite [if_pos h2]; simp only [if_pos h2] at hR
      exact hR
    · rewrite [if_neg h2]; simp only [if_neg h2] at hR
      try simp only [Option.bind_some]
      rewrite [if_pos (show kd (pt (pt (pt X r P) n U) m V, J) r = 4 from hP.k)]
      rw [pt_comm X P U d_PU, pt_comm (pt X n U) P V d_PV]
      rw [s_X4_stepAt hP]
      rw [pt_comm (pt X n U) V P (Or.symm d_PV), pt_comm X U P (Or.symm d_PU)]
      simp only [Option.bind_some, asI_I]
      try simp only [Option.bind_some]
      rewrite [if_pos (show kd (pt (pt (pt X r P) n U) m V, J) m = 1 from hM.k)]
      rewrite [s_X1_stepFrom hN hM d_UV]
      simp only [Option.bind_some, asI_I]
      exact hR
def lp_X1_walk_8 (L : Nat) (P : RouV) (U : NodV) (x2 : Int32) : Nat → Nat → Int32 → MemV → Int32 × MemV
  | 0, k, x3, V => (x3, V)
  | nn + 1, k, x3, V => (if x3 < 0 then (x3, V) else lp_X1_walk_8 L P U x2 nn (k + 1) (q_X1_stepFrom U V x3 (q_X4_stepAt L P (nI k))) (gV_X1_stepFrom U V x3 (q_X4_stepAt L P (nI k))))
theorem lr_X1_walk_8 {J : MJ} {r L n m : Nat} (hP : RouL J r L) (hN : NodL J n) (hM : MemL J m n) (d_PU : r + 2 ≤ n ∨ n + 6 ≤ r) (d_PV : r + 2 ≤ m ∨ m + 12 ≤ r) (d_UV : n + 6 ≤ m ∨ m + 12 ≤ n) (X : MI) (P : RouV) (U : NodV) (x2 : Int32) : ∀ (nn k : Nat) (x3 : Int32) (V : MemV), k + nn = (ix x2) → Ev T_X1_walk 8 [some (mR (some m)), some (mR (some r)), some (mI x2), some (mI x3), some (mI (nI k))] [] (pt (pt (pt X r P) n U) m V, J) = some (some (mI ((lp_X1_walk_8 L P U x2 nn k x3 V).1)), (pt (pt (pt X r P) n U) m ((lp_X1_walk_8 L P U x2 nn k x3 V).2), J)) := by
  intro nn
  induction nn with
  | zero =>
    intro k x3 V hk
    have hk : k = (ix x2) := by omega
    subst hk
    generalize hR : some (some (mI ((lp_X1_walk_8 L P U x2 0 (ix x2) x3 V).1)), (pt (pt (pt X r P) n U) m ((lp_X1_walk_8 L P U x2 0 (ix x2) x3 V).2), J)) = R
    rw [lp_X1_walk_8] at hR
    rw [P_X1_walk_8 hP hN hM d_PU d_PV d_UV _ _ _ _ _ _ _, if_pos ((le_nI (ix_lt x2)).mpr (Nat.le_refl _))]
    exact hR
  | succ nn ih =>
    intro k x3 V hk
    generalize hR : some (some (mI ((lp_X1_walk_8 L P U x2 (nn + 1) k x3 V).1)), (pt (pt (pt X r P) n U) m ((lp_X1_walk_8 L P U x2 (nn + 1) k x3 V).2), J)) = R
    rw [lp_X1_walk_8] at hR
    rw [P_X1_walk_8 hP hN hM d_PU d_PV d_UV _ _ _ _ _ _ _, if_neg (fun h => by have h2 := (le_nI (by have := ix_lt x2; omega)).mp h; omega)]
    try rw [ix_nI (by have := ix_lt x2; omega)]
    rw [nI_1 k]
    by_cases k1 : x3 < 0
    · rewrite [if_pos k1]; simp only [if_pos k1] at hR
      exact hR
    · rewrite [if_neg k1]; simp only [if_neg k1] at hR
      exact (ih (k + 1) _ _ (by omega)).trans hR
def o_X1_walk (L : Nat) (P : RouV) (U : NodV) (V : MemV) (x2 : Int32) : Int32 × MemV := lp_X1_walk_8 L P U x2 (ix x2) 0 (q_X1_comeToRoot V) (gV_X1_comeToRoot V)
def q_X1_walk (L : Nat) (P : RouV) (U : NodV) (V : MemV) (x2 : Int32) : Int32 := (o_X1_walk L P U V x2).1
def gV_X1_walk (L : Nat) (P : RouV) (U : NodV) (V : MemV) (x2 : Int32) : MemV := (o_X1_walk L P U V x2).2
theorem s_X1_walk {J : MJ} {r L n m : Nat} (hP : RouL J r L) (hN : NodL J n) (hM : MemL J m n) (d_PU : r + 2 ≤ n ∨ n + 6 ≤ r) (d_PV : r + 2 ≤ m ∨ m + 12 ≤ r) (d_UV : n + 6 ≤ m ∨ m + 12 ≤ n) (X : MI) (P : RouV) (U : NodV) (V : MemV) (x2 : Int32) : M_X1_walk [mR (some m), mR (some r), mI x2] (pt (pt (pt X r P) n U) m V, J) = some (some (mI (q_X1_walk L P U V x2)), (pt (pt (pt X r P) n U) m ((gV_X1_walk L P U V x2)), J)) := by
  generalize hR : some (some (mI (q_X1_walk L P U V x2)), (pt (pt (pt X r P) n U) m ((gV_X1_walk L P U V x2)), J)) = R
  rw [P_X1_walk hP hN hM d_PU d_PV d_UV]
  unfold q_X1_walk gV_X1_walk o_X1_walk at hR
  exact (lr_X1_walk_8 hP hN hM d_PU d_PV d_UV X _ _ _ _ 0 _ _ (by omega)).trans hR
def gU_X2_copyFrom (U2 : NodV) (U : NodV) : NodV := uv (uv (cpv (cpv (cpv (cpv (cpv U 1 60 (U2 1)) 2 60 (U2 2)) 3 60 (U2 3)) 4 60 (U2 4)) 5 3 (U2 5)) 0 5 (U2 0 5)) 0 6 (U2 0 6)
theorem s_X2_copyFrom {J : MJ} {n2 n : Nat} (hN2 : NodL J n2) (hN : NodL J n) (d_U2U : n2 + 6 ≤ n ∨ n + 6 ≤ n2) (X : MI) (U2 : NodV) (U : NodV) : M_X2_copyFrom [mR (some n), mR (some n2)] (pt (pt X n2 U2) n U, J) = some (none, (pt (pt X n2 U2) n (gU_X2_copyFrom U2 U), J)) := by
  generalize hR : some (none, (pt (pt X n2 U2) n (gU_X2_copyFrom U2 U), J)) = R
  rw [E_X2_copyFrom]
  unfold gU_X2_copyFrom at hR
  try rewrite [fR_ok 0 hN2.k]
  try rewrite [Option.bind_some]
  try rewrite [hN2.r1]
  try rewrite [fR_ok 0 hN.k]
  try rewrite [Option.bind_some]
  try rewrite [hN.r1]
  try simp only [Option.bind_some]
  try rewrite [cpy_ok hN2.s1 hN.s1 (by decide) (by have := d_U2U; omega) 60 rfl]
  try simp only [Option.bind_some]
  try rewrite [c6_1]
  try rewrite [pt_out (x := n2 + 1) (a := n) (by have := d_U2U; omega)]
  try rewrite [p6_1]
  try rewrite [fR_ok 1 hN2.k]
  try rewrite [Option.bind_some]
  try rewrite [hN2.r2]
  try rewrite [fR_ok 1 hN.k]
  try rewrite [Option.bind_some]
  try rewrite [hN.r2]
  try simp only [Option.bind_some]
  try rewrite [cpy_ok hN2.s2 hN.s2 (by decide) (by have := d_U2U; omega) 60 rfl]
  try simp only [Option.bind_some]
  try rewrite [c6_2]
  try rewrite [pt_out (x := n2 + 2) (a := n) (by have := d_U2U; omega)]
  try rewrite [p6_2]
  try rewrite [fR_ok 2 hN2.k]
  try rewrite [Option.bind_some]
  try rewrite [hN2.r3]
  try rewrite [fR_ok 2 hN.k]
  try rewrite [Option.bind_some]
  try rewrite [hN.r3]
  try simp only [Option.bind_some]
  try rewrite [cpy_ok hN2.s3 hN.s3 (by decide) (by have := d_U2U; omega) 60 rfl]
  try simp only [Option.bind_some]
  try rewrite [c6_3]
  try rewrite [pt_out (x := n2 + 3) (a := n) (by have := d_U2U; omega)]
  try rewrite [p6_3]
  try rewrite [fR_ok 3 hN2.k]
  try rewrite [Option.bind_some]
  try rewrite [hN2.r4]
  try rewrite [fR_ok 3 hN.k]
  try rewrite [Option.bind_some]
  try rewrite [hN.r4]
  try simp only [Option.bind_some]
  try rewrite [cpy_ok hN2.s4 hN.s4 (by decide) (by have := d_U2U; omega) 60 rfl]
  try simp only [Option.bind_some]
  try rewrite [c6_4]
  try rewrite [pt_out (x := n2 + 4) (a := n) (by have := d_U2U; omega)]
  try rewrite [p6_4]
  try rewrite [fR_ok 4 hN2.k]
  try rewrite [Option.bind_some]
  try rewrite [hN2.r5]
  try rewrite [fR_ok 4 hN.k]
  try rewrite [Option.bind_some]
  try rewrite [hN.r5]
  try simp only [Option.bind_some]
  try rewrite [cpy_ok hN2.s5 hN.s5 (by decide) (by have := d_U2U; omega) 3 rfl]
  try simp only [Option.bind_some]
  try rewrite [c6_5]
  try rewrite [pt_out (x := n2 + 5) (a := n) (by have := d_U2U; omega)]
  try rewrite [p6_5]
  try rewrite [fI_ok 5 hN2.k]
  try rewrite [Option.bind_some]
  try rewrite [pt_out (x := n2) (a := n) (by have := d_U2U; omega)]
  try rewrite [p6_0]
  try rewrite [wI_ok 5 _ hN.k]
  try rewrite [Option.bind_some]
  try rewrite [u6_0]
  try rewrite [fI_ok 6 hN2.k]
  try rewrite [Option.bind_some]
  try rewrite [pt_out (x := n2) (a := n) (by have := d_U2U; omega)]
  try rewrite [p6_0]
  try rewrite [wI_ok 6 _ hN.k]
  try rewrite [Option.bind_some]
  try rewrite [u6_0]
  exact hR
def gV_X1_copyFrom (V2 : MemV) (V : MemV) : MemV := uv (uv (uv (uv (cpv (cpv (cpv (cpv (cpv (cpv (cpv (cpv (cpv (cpv V 1 64 (V2 1)) 2 64 (V2 2)) 3 64 (V2 3)) 4 64 (V2 4)) 5 64 (V2 5)) 6 64 (V2 6)) 7 64 (V2 7)) 8 64 (V2 8)) 9 3 (V2 9)) 10 3 (V2 10)) 0 11 (V2 0 11)) 0 12 (V2 0 12)) 0 13 (V2 0 13)) 0 14 (V2 0 14)
theorem s_X1_copyFrom {J : MJ} {m2 nx m n : Nat} (hM2 : MemL J m2 nx) (hM : MemL J m n) (d_V2V : m2 + 12 ≤ m ∨ m + 12 ≤ m2) (X : MI) (V2 : MemV) (V : MemV) : M_X1_copyFrom [mR (some m), mR (some m2)] (pt (pt X m2 V2) m V, J) = some (none, (pt (pt X m2 V2) m (gV_X1_copyFrom V2 V), J)) := by
  generalize hR : some (none, (pt (pt X m2 V2) m (gV_X1_copyFrom V2 V), J)) = R
  rw [E_X1_copyFrom]
  unfold gV_X1_copyFrom at hR
  try rewrite [fR_ok 1 hM2.k]
  try rewrite [Option.bind_some]
  try rewrite [hM2.r1]
  try rewrite [fR_ok 1 hM.k]
  try rewrite [Option.bind_some]
  try rewrite [hM.r1]
  try simp only [Option.bind_some]
  try rewrite [cpy_ok hM2.s1 hM.s1 (by decide) (by have := d_V2V; omega) 64 rfl]
  try simp only [Option.bind_some]
  try rewrite [c12_1]
  try rewrite [pt_out (x := m2 + 1) (a := m) (by have := d_V2V; omega)]
  try rewrite [p12_1]
  try rewrite [fR_ok 2 hM2.k]
  try rewrite [Option.bind_some]
  try rewrite [hM2.r2]
  try rewrite [fR_ok 2 hM.k]
  try rewrite [Option.bind_some]
  try rewrite [hM.r2]
  try simp only [Option.bind_some]
  try rewrite [cpy_ok hM2.s2 hM.s2 (by decide) (by have := d_V2V; omega) 64 rfl]
  try simp only [Option.bind_some]
  try rewrite [c12_2]
  try rewrite [pt_out (x := m2 + 2) (a := m) (by have := d_V2V; omega)]
  try rewrite [p12_2]
  try rewrite [fR_ok 3 hM2.k]
  try rewrite [Option.bind_some]
  try rewrite [hM2.r3]
  try rewrite [fR_ok 3 hM.k]
  try rewrite [Option.bind_some]
  try rewrite [hM.r3]
  try simp only [Option.bind_some]
  try rewrite [cpy_ok hM2.s3 hM.s3 (by decide) (by have := d_V2V; omega) 64 rfl]
  try simp only [Option.bind_some]
  try rewrite [c12_3]
  try rewrite [pt_out (x := m2 + 3) (a := m) (by have := d_V2V; omega)]
  try rewrite [p12_3]
  try rewrite [fR_ok 4 hM2.k]
  try rewrite [Option.bind_some]
  try rewrite [hM2.r4]
  try rewrite [fR_ok 4 hM.k]
  try rewrite [Option.bind_some]
  try rewrite [hM.r4]
  try simp only [Option.bind_some]
  try rewrite [cpy_ok hM2.s4 hM.s4 (by decide) (by have := d_V2V; omega) 64 rfl]
  try simp only [Option.bind_some]
  try rewrite [c12_4]
  try rewrite [pt_out (x := m2 + 4) (a := m) (by have := d_V2V; omega)]
  try rewrite [p12_4]
  try rewrite [fR_ok 5 hM2.k]
  try rewrite [Option.bind_some]
  try rewrite [hM2.r5]
  try rewrite [fR_ok 5 hM.k]
  try rewrite [Option.bind_some]
  try rewrite [hM.r5]
  try simp only [Option.bind_some]
  try rewrite [cpy_ok hM2.s5 hM.s5 (by decide) (by have := d_V2V; omega) 64 rfl]
  try simp only [Option.bind_some]
  try rewrite [c12_5]
  try rewrite [pt_out (x := m2 + 5) (a := m) (by have := d_V2V; omega)]
  try rewrite [p12_5]
  try rewrite [fR_ok 6 hM2.k]
  try rewrite [Option.bind_some]
  try rewrite [hM2.r6]
  try rewrite [fR_ok 6 hM.k]
  try rewrite [Option.bind_some]
  try rewrite [hM.r6]
  try simp only [Option.bind_some]
  try rewrite [cpy_ok hM2.s6 hM.s6 (by decide) (by have := d_V2V; omega) 64 rfl]
  try simp only [Option.bind_some]
  try rewrite [c12_6]
  try rewrite [pt_out (x := m2 + 6) (a := m) (by have := d_V2V; omega)]
  try rewrite [p12_6]
  try rewrite [fR_ok 7 hM2.k]
  try rewrite [Option.bind_some]
  try rewrite [hM2.r7]
  try rewrite [fR_ok 7 hM.k]
  try rewrite [Option.bind_some]
  try rewrite [hM.r7]
  try simp only [Option.bind_some]
  try rewrite [cpy_ok hM2.s7 hM.s7 (by decide) (by have := d_V2V; omega) 64 rfl]
  try simp only [Option.bind_some]
  try rewrite [c12_7]
  try rewrite [pt_out (x := m2 + 7) (a := m) (by have := d_V2V; omega)]
  try rewrite [p12_7]
  try rewrite [fR_ok 8 hM2.k]
  try rewrite [Option.bind_some]
  try rewrite [hM2.r8]
  try rewrite [fR_ok 8 hM.k]
  try rewrite [Option.bind_some]
  try rewrite [hM.r8]
  try simp only [Option.bind_some]
  try rewrite [cpy_ok hM2.s8 hM.s8 (by decide) (by have := d_V2V; omega) 64 rfl]
  try simp only [Option.bind_some]
  try rewrite [c12_8]
  try rewrite [pt_out (x := m2 + 8) (a := m) (by have := d_V2V; omega)]
  try rewrite [p12_8]
  try rewrite [fR_ok 9 hM2.k]
  try rewrite [Option.bind_some]
  try rewrite [hM2.r9]
  try rewrite [fR_ok 9 hM.k]
  try rewrite [Option.bind_some]
  try rewrite [hM.r9]
  try simp only [Option.bind_some]
  try rewrite [cpy_ok hM2.s9 hM.s9 (by decide) (by have := d_V2V; omega) 3 rfl]
  try simp only [Option.bind_some]
  try rewrite [c12_9]
  try rewrite [pt_out (x := m2 + 9) (a := m) (by have := d_V2V; omega)]
  try rewrite [p12_9]
  try rewrite [fR_ok 10 hM2.k]
  try rewrite [Option.bind_some]
  try rewrite [hM2.r10]
  try rewrite [fR_ok 10 hM.k]
  try rewrite [Option.bind_some]
  try rewrite [hM.r10]
  try simp only [Option.bind_some]
  try rewrite [cpy_ok hM2.s10 hM.s10 (by decide) (by have := d_V2V; omega) 3 rfl]
  try simp only [Option.bind_some]
  try rewrite [c12_10]
  try rewrite [pt_out (x := m2 + 10) (a := m) (by have := d_V2V; omega)]
  try rewrite [p12_10]
  try rewrite [fI_ok 11 hM2.k]
  try rewrite [Option.bind_some]
  try rewrite [pt_out (x := m2) (a := m) (by have := d_V2V; omega)]
  try rewrite [p12_0]
  try rewrite [wI_ok 11 _ hM.k]
  try rewrite [Option.bind_some]
  try rewrite [u12_0]
  try rewrite [fI_ok 12 hM2.k]
  try rewrite [Option.bind_some]
  try rewrite [pt_out (x := m2) (a := m) (by have := d_V2V; omega)]
  try rewrite [p12_0]
  try rewrite [wI_ok 12 _ hM.k]
  try rewrite [Option.bind_some]
  try rewrite [u12_0]
  try rewrite [fI_ok 13 hM2.k]
  try rewrite [Option.bind_some]
  try rewrite [pt_out (x := m2) (a := m) (by have := d_V2V; omega)]
  try rewrite [p12_0]
  try rewrite [wI_ok 13 _ hM.k]
  try rewrite [Option.bind_some]
  try rewrite [u12_0]
  try rewrite [fI_ok 14 hM2.k]
  try rewrite [Option.bind_some]
  try rewrite [pt_out (x := m2) (a := m) (by have := d_V2V; omega)]
  try rewrite [p12_0]
  try rewrite [wI_ok 14 _ hM.k]
  try rewrite [Option.bind_some]
  try rewrite [u12_0]
  exact hR
end

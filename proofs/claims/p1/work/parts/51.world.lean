/-! Worlds, all but their walkers; the reader. Written by gen/run5.py. -/
def q_X8_handleAt (O : OneV) (H : OneV) (x1 : Int32) : Int32 := (if x1 < 0 then (-1) else (if (6 : Int32) ≤ x1 then (-1) else H 0 (ix x1)))
theorem s_X8_handleAt {J : MJ} {o n m g z : Nat} (hO : WorL J o n m g z) (hH : HanL J g) (d_OH : o + 1 ≤ g ∨ g + 1 ≤ o) (X : MI) (O : OneV) (H : OneV) (x1 : Int32) : M_X8_handleAt [mR (some o), mI x1] (pt (pt X o O) g H, J) = some (some (mI (q_X8_handleAt O H x1)), (pt (pt X o O) g H, J)) := by
  generalize hR : some (some (mI (q_X8_handleAt O H x1)), (pt (pt X o O) g H, J)) = R
  rw [E_X8_handleAt]
  unfold q_X8_handleAt at hR
  by_cases h1 : x1 < 0
  · rewrite [if_pos h1]; simp only [if_pos h1] at hR
    exact hR
  · rewrite [if_neg h1]; simp only [if_neg h1] at hR
    by_cases h2 : (6 : Int32) ≤ x1
    · rewrite [if_pos h2]; simp only [if_pos h2] at hR
      exact hR
    · rewrite [if_neg h2]; simp only [if_neg h2] at hR
      try rewrite [fR_ok 2 hO.k]
      try rewrite [Option.bind_some]
      try rewrite [hO.r2]
      try simp only [Option.bind_some]
      try rewrite [ld_ok _ hH.s0 (inb_of rfl h1 h2)]
      try rewrite [Option.bind_some]
      try rewrite [p1_0]
      exact hR
theorem P_X8_freeHandle {J : MJ} {o n m g z : Nat} (hO : WorL J o n m g z) (hH : HanL J g) (d_OH : o + 1 ≤ g ∨ g + 1 ≤ o) (X : MI) (O : OneV) (H : OneV) : M_X8_freeHandle [mR (some o)] (pt (pt X o O) g H, J) = Ev T_X8_freeHandle 2 [some (mR (some o)), some (mI 0)] [] (pt (pt X o O) g H, J) := by
  generalize hR : Ev T_X8_freeHandle 2 [some (mR (some o)), some (mI 0)] [] (pt (pt X o O) g H, J) = R
  rw [E_X8_freeHandle]
  exact hR
theorem P_X8_freeHandle_2 {J : MJ} {o n m g z : Nat} (hO : WorL J o n m g z) (hH : HanL J g) (d_OH : o + 1 ≤ g ∨ g + 1 ≤ o) (X : MI) (O : OneV) (H : OneV) (x1 : Int32) (h_x1 : ¬ x1 < 0) : Ev T_X8_freeHandle 2 [some (mR (some o)), some (mI x1)] [] (pt (pt X o O) g H, J) = (if (6 : Int32) ≤ x1 then some (some (mI ((-1))), (pt (pt X o O) g H, J)) else (if (H 0 (ix x1)) = ((-1)) then some (some (mI x1), (pt (pt X o O) g H, J)) else Ev T_X8_freeHandle 2 [some (mR (some o)), some (mI (x1 + 1))] [] (pt (pt X o O) g H, J))) := by
  generalize hR : (if (6 : Int32) ≤ x1 then some (some (mI ((-1))), (pt (pt X o O) g H, J)) else (if (H 0 (ix x1)) = ((-1)) then some (some (mI x1), (pt (pt X o O) g H, J)) else Ev T_X8_freeHandle 2 [some (mR (some o)), some (mI (x1 + 1))] [] (pt (pt X o O) g H, J))) = R
  rw [E_X8_freeHandle_2]
  by_cases h1 : (6 : Int32) ≤ x1
  · rewrite [if_pos h1]; simp only [if_pos h1] at hR
    exact hR
  · rewrite [if_neg h1]; simp only [if_neg h1] at hR
    try rewrite [fR_ok 2 hO.k]
    try rewrite [Option.bind_some]
    try rewrite [hO.r2]
    try simp only [Option.bind_some]
    try rewrite [ld_ok _ hH.s0 (inb_of rfl h_x1 h1)]
    try rewrite [Option.bind_some]
    try rewrite [p1_0]
    by_cases h2 : (H 0 (ix x1)) = ((-1))
    · rewrite [if_pos h2]; simp only [if_pos h2] at hR
      exact hR
    · rewrite [if_neg h2]; simp only [if_neg h2] at hR
      exact hR
def f_X8_freeHandle (O : OneV) (H : OneV)  : Option Nat := fst? (fun k => (if (H 0 k) = ((-1)) then true else false)) 0 6
def ql_X8_freeHandle (O : OneV) (H : OneV)  : Int32 := oI (f_X8_freeHandle O H)
theorem l_X8_freeHandle {J : MJ} {o n m g z : Nat} (hO : WorL J o n m g z) (hH : HanL J g) (d_OH : o + 1 ≤ g ∨ g + 1 ≤ o) (X : MI) (O : OneV) (H : OneV)  : Ev T_X8_freeHandle 2 [some (mR (some o)), some (mI 0)] [] (pt (pt X o O) g H, J) = some (some (mI (ql_X8_freeHandle O H)), (pt (pt X o O) g H, J)) := by
  have step := loop_find (fun k => Ev T_X8_freeHandle 2 [some (mR (some o)), some (mI (nI k))] [] (pt (pt X o O) g H, J)) (fun k => (if (H 0 k) = ((-1)) then true else false)) (fun k => some (some (mI ((nI k))), (pt (pt X o O) g H, J))) 6 (fun k hk => by
    try dsimp only
    rw [P_X8_freeHandle_2 hO hH d_OH _ _ _ _ (nI_pos (by omega)), if_neg (show ¬ (6 : Int32) ≤ nI k from nI_ge hk (by decide))]
    try rw [ix_nI (by omega)]
    rw [nI_1]
    by_cases k1 : (H 0 k) = ((-1))
    ·
      simp [k1, nI_1]
    ·
      simp [k1, nI_1]) 6 0 (by omega)
  have hend : Ev T_X8_freeHandle 2 [some (mR (some o)), some (mI (nI 6))] [] (pt (pt X o O) g H, J) = some (some (mI ((-1))), (pt (pt X o O) g H, J)) := by
    rw [P_X8_freeHandle_2 hO hH d_OH _ _ _ _ (nI_pos (by omega)), if_pos (show (6 : Int32) ≤ nI 6 from Int32.le_refl _)]
  have h0 : (nI 0) = 0 := rfl
  try dsimp only at step
  rw [h0] at step
  rw [step]
  unfold ql_X8_freeHandle f_X8_freeHandle
  cases fst? (fun k => (if (H 0 k) = ((-1)) then true else false)) 0 6 with
  | none => exact hend
  | some j => rfl
def q_X8_freeHandle (O : OneV) (H : OneV)  : Int32 := ql_X8_freeHandle O H
theorem s_X8_freeHandle {J : MJ} {o n m g z : Nat} (hO : WorL J o n m g z) (hH : HanL J g) (d_OH : o + 1 ≤ g ∨ g + 1 ≤ o) (X : MI) (O : OneV) (H : OneV)  : M_X8_freeHandle [mR (some o)] (pt (pt X o O) g H, J) = some (some (mI (q_X8_freeHandle O H)), (pt (pt X o O) g H, J)) := by
  rw [P_X8_freeHandle hO hH d_OH]
  unfold q_X8_freeHandle
  exact l_X8_freeHandle hO hH d_OH _ _ _
theorem P_X8_handlesOpen {J : MJ} {o n m g z : Nat} (hO : WorL J o n m g z) (hH : HanL J g) (d_OH : o + 1 ≤ g ∨ g + 1 ≤ o) (X : MI) (O : OneV) (H : OneV) : M_X8_handlesOpen [mR (some o)] (pt (pt X o O) g H, J) = Ev T_X8_handlesOpen 4 [some (mR (some o)), some (mI 0), some (mI 0)] [] (pt (pt X o O) g H, J) := by
  generalize hR : Ev T_X8_handlesOpen 4 [some (mR (some o)), some (mI 0), some (mI 0)] [] (pt (pt X o O) g H, J) = R
  rw [E_X8_handlesOpen]
  exact hR
theorem P_X8_handlesOpen_4 {J : MJ} {o n m g z : Nat} (hO : WorL J o n m g z) (hH : HanL J g) (d_OH : o + 1 ≤ g ∨ g + 1 ≤ o) (X : MI) (O : OneV) (H : OneV) (x1 : Int32) (x2 : Int32) (h_x2 : ¬ x2 < 0) : Ev T_X8_handlesOpen 4 [some (mR (some o)), some (mI x1), some (mI x2)] [] (pt (pt X o O) g H, J) = (if (6 : Int32) ≤ x2 then some (some (mI x1), (pt (pt X o O) g H, J)) else (if (H 0 (ix x2)) = ((-1)) then Ev T_X8_handlesOpen 4 [some (mR (some o)), some (mI (x1 + 0)), some (mI (x2 + 1))] [] (pt (pt X o O) g H, J) else Ev T_X8_handlesOpen 4 [some (mR (some o)), some (mI (x1 + 1)), some (mI (x2 + 1))] [] (pt (pt X o O) g H, J))) := by
  generalize hR : (if (6 : Int32) ≤ x2 then some (some (mI x1), (pt (pt X o O) g H, J)) else (if (H 0 (ix x2)) = ((-1)) then Ev T_X8_handlesOpen 4 [some (mR (some o)), some (mI (x1 + 0)), some (mI (x2 + 1))] [] (pt (pt X o O) g H, J) else Ev T_X8_handlesOpen 4 [some (mR (some o)), some (mI (x1 + 1)), some (mI (x2 + 1))] [] (pt (pt X o O) g H, J))) = R
  rw [E_X8_handlesOpen_4]
  by_cases h1 : (6 : Int32) ≤ x2
  · rewrite [if_pos h1]; simp only [if_pos h1] at hR
    exact hR
  · rewrite [if_neg h1]; simp only [if_neg h1] at hR
    try rewrite [fR_ok 2 hO.k]
    try rewrite [Option.bind_some]
    try rewrite [hO.r2]
    try simp only [Option.bind_some]
    try rewrite [ld_ok _ hH.s0 (inb_of rfl h_x2 h1)]
    try rewrite [Option.bind_some]
    try rewrite [p1_0]
    by_cases h2 : (H 0 (ix x2)) = ((-1))
    · rewrite [if_pos h2]; simp only [if_pos h2] at hR
      exact hR
    · rewrite [if_neg h2]; simp only [if_neg h2] at hR
      exact hR
def c_X8_handlesOpen (O : OneV) (H : OneV)  : Nat := cnt (fun k => (if (H 0 k) = ((-1)) then false else true)) 0 6
def ql_X8_handlesOpen (O : OneV) (H : OneV)  : Int32 := nI (c_X8_handlesOpen O H)
theorem l_X8_handlesOpen {J : MJ} {o n m g z : Nat} (hO : WorL J o n m g z) (hH : HanL J g) (d_OH : o + 1 ≤ g ∨ g + 1 ≤ o) (X : MI) (O : OneV) (H : OneV)  : Ev T_X8_handlesOpen 4 [some (mR (some o)), some (mI 0), some (mI 0)] [] (pt (pt X o O) g H, J) = some (some (mI (ql_X8_handlesOpen O H)), (pt (pt X o O) g H, J)) := by
  have step := loop_cnt (fun k c => Ev T_X8_handlesOpen 4 [some (mR (some o)), some (mI (nI c)), some (mI (nI k))] [] (pt (pt X o O) g H, J)) (fun k => (if (H 0 k) = ((-1)) then false else true)) 6 (fun k c hk => by
    try dsimp only
    rw [P_X8_handlesOpen_4 hO hH d_OH _ _ _ _ _ (nI_pos (by omega)), if_neg (show ¬ (6 : Int32) ≤ nI k from nI_ge hk (by decide))]
    try rw [ix_nI (by omega)]
    rw [nI_1 k]
    by_cases k1 : (H 0 k) = ((-1))
    ·
      simp [k1, nI_1]
    ·
      simp [k1, nI_1]) 6 0 0 (by omega)
  have h0 : (nI 0) = 0 := rfl
  try dsimp only at step
  rw [h0] at step
  rw [step, P_X8_handlesOpen_4 hO hH d_OH _ _ _ _ _ (nI_pos (by omega)), if_pos (show (6 : Int32) ≤ nI 6 from Int32.le_refl _), Nat.zero_add]
  rfl
def q_X8_handlesOpen (O : OneV) (H : OneV)  : Int32 := ql_X8_handlesOpen O H
theorem s_X8_handlesOpen {J : MJ} {o n m g z : Nat} (hO : WorL J o n m g z) (hH : HanL J g) (d_OH : o + 1 ≤ g ∨ g + 1 ≤ o) (X : MI) (O : OneV) (H : OneV)  : M_X8_handlesOpen [mR (some o)] (pt (pt X o O) g H, J) = some (some (mI (q_X8_handlesOpen O H)), (pt (pt X o O) g H, J)) := by
  rw [P_X8_handlesOpen hO hH d_OH]
  unfold q_X8_handlesOpen
  exact l_X8_handlesOpen hO hH d_OH _ _ _
def q_X8_openAt (L : Nat) (O : OneV) (H : OneV) (P : RouV) (U : NodV) (V : MemV) : Int32 := (if (q_X1_walk L P U V (P 0 1)) < 0 then (-1) else (if (q_X8_freeHandle O H) < 0 then (-1) else (if (q_X8_freeHandle O H) < 6 then q_X8_freeHandle O H else (-1))))
def gH_X8_openAt (L : Nat) (O : OneV) (H : OneV) (P : RouV) (U : NodV) (V : MemV) : OneV := (if (q_X1_walk L P U V (P 0 1)) < 0 then H else (if (q_X8_freeHandle O H) < 0 then H else (if (q_X8_freeHandle O H) < 6 then uv H 0 (ix (q_X8_freeHandle O H)) (q_X1_walk L P U V (P 0 1)) else H)))
def gV_X8_openAt (L : Nat) (O : OneV) (H : OneV) (P : RouV) (U : NodV) (V : MemV) : MemV := (if (q_X1_walk L P U V (P 0 1)) < 0 then gV_X1_walk L P U V (P 0 1) else (if (q_X8_freeHandle O H) < 0 then gV_X1_walk L P U V (P 0 1) else (if (q_X8_freeHandle O H) < 6 then gV_X1_hold (gV_X1_walk L P U V (P 0 1)) (q_X1_walk L P U V (P 0 1)) else gV_X1_walk L P U V (P 0 1))))
theorem s_X8_openAt {J : MJ} {o n m g z r L : Nat} (hO : WorL J o n m g z) (hH : HanL J g) (hP : RouL J r L) (hN : NodL J n) (hM : MemL J m n) (d_OH : o + 1 ≤ g ∨ g + 1 ≤ o) (d_OP : o + 1 ≤ r ∨ r + 2 ≤ o) (d_OU : o + 1 ≤ n ∨ n + 6 ≤ o) (d_OV : o + 1 ≤ m ∨ m + 12 ≤ o) (d_HP : g + 1 ≤ r ∨ r + 2 ≤ g) (d_HU : g + 1 ≤ n ∨ n + 6 ≤ g) (d_HV : g + 1 ≤ m ∨ m + 12 ≤ g) (d_PU : r + 2 ≤ n ∨ n + 6 ≤ r) (d_PV : r + 2 ≤ m ∨ m + 12 ≤ r) (d_UV : n + 6 ≤ m ∨ m + 12 ≤ n) (X : MI) (O : OneV) (H : OneV) (P : RouV) (U : NodV) (V : MemV) : M_X8_openAt [mR (some o), mR (some r)] (pt (pt (pt (pt (pt X o O) g H) r P) n U) m V, J) = some (some (mI (q_X8_openAt L O H P U V)), (pt (pt (pt (pt (pt X o O) g (gH_X8_openAt L O H P U V)) r P) n U) m (gV_X8_openAt L O H P U V), J)) := by
  generalize hR : some (some (mI (q_X8_openAt L O H P U V)), (pt (pt (pt (pt (pt X o O) g (gH_X8_openAt L O H P U V)) r P) n U) m (gV_X8_openAt L O H P U V), J)) = R
  rw [E_X8_openAt]
  unfold q_X8_openAt gH_X8_openAt gV_X8_openAt at hR
  try rewrite [fR_ok 1 hO.k]
  try rewrite [Option.bind_some]
  try rewrite [hO.r1]
  try rewrite [fI_ok 1 hP.k]
  try rewrite [Option.bind_some]
  try rewrite [pt_out (x := r) (a := m) (by have := d_PV; omega)]
  try rewrite [pt_out (x := r) (a := n) (by have := d_PU; omega)]
  try rewrite [p2_0]
  try simp only [Option.bind_some]
  rewrite [if_pos (show kd (pt (pt (pt (pt (pt X o O) g H) r P) n U) m V, J) m = 1 from hM.k)]
  rewrite [s_X1_walk hP hN hM d_PU d_PV d_UV]
  simp only [Option.bind_some, asI_I]
  try simp only [Option.bind_some]
  rewrite [if_pos (show kd (pt (pt (pt (pt (pt X o O) g H) r P) n U) m (gV_X1_walk L P U V (P 0 1)), J) o = 8 from hO.k)]
  rw [pt_comm (pt X o O) H P d_HP, pt_comm (pt (pt X o O) r P) H U d_HU, pt_comm (pt (pt (pt X o O) r P) n U) H (gV_X1_walk L P U V (P 0 1)) d_HV, pt_comm X O P d_OP, pt_comm (pt X r P) O U d_OU, pt_comm (pt (pt X r P) n U) O (gV_X1_walk L P U V (P 0 1)) d_OV]
  rw [s_X8_freeHandle hO hH d_OH]
  rw [pt_comm (pt (pt X r P) n U) (gV_X1_walk L P U V (P 0 1)) O (Or.symm d_OV), pt_comm (pt (pt (pt X r P) n U) o O) (gV_X1_walk L P U V (P 0 1)) H (Or.symm d_HV), pt_comm (pt X r P) U O (Or.symm d_OU), pt_comm (pt (pt X r P) o O) U H (Or.symm d_HU), pt_comm X P O (Or.symm d_OP), pt_comm (pt X o O) P H (Or.symm d_HP)]
  simp only [Option.bind_some, asI_I]
  by_cases h1 : (q_X1_walk L P U V (P 0 1)) < 0
  · rewrite [if_pos h1]; simp only [if_pos h1] at hR
    exact hR
  · rewrite [if_neg h1]; simp only [if_neg h1] at hR
    by_cases h2 : (q_X8_freeHandle O H) < 0
    · rewrite [if_pos h2]; simp only [if_pos h2] at hR
      exact hR
    · rewrite [if_neg h2]; simp only [if_neg h2] at hR
      by_cases h3 : (q_X8_freeHandle O H) < 6
      · rewrite [if_pos h3]; simp only [if_pos h3] at hR
        try rewrite [fR_ok 1 hO.k]
        try rewrite [Option.bind_some]
        try rewrite [hO.r1]
        try simp only [Option.bind_some]
        rewrite [if_pos (show kd (pt (pt (pt (pt (pt X o O) g H) r P) n U) m (gV_X1_walk L P U V (P 0 1)), J) m = 1 from hM.k)]
        rewrite [s_X1_hold hM]
        simp only [Option.bind_some, asV_n]
        try rewrite [fR_ok 2 hO.k]
        try rewrite [Option.bind_some]
        try rewrite [hO.r2]
        try simp only [Option.bind_some]
        try rewrite [st_ok _ _ hH.s0 (inb_of rfl h2 (Int32.not_le.mpr h3))]
        try rewrite [Option.bind_some]
        try rewrite [up_out (x := g) (a := m) (by have := d_HV; omega)]
        try rewrite [up_out (x := g) (a := n) (by have := d_HU; omega)]
        try rewrite [up_out (x := g) (a := r) (by have := d_HP; omega)]
        try rewrite [u1_0]
        exact hR
      · rewrite [if_neg h3]; simp only [if_neg h3] at hR
        exact hR
def gH_X8_closeHandle (O : OneV) (H : OneV) (V : MemV) (x1 : Int32) : OneV := (if x1 < 0 then H else (if (6 : Int32) ≤ x1 then H else uv H 0 (ix x1) ((-1))))
def gV_X8_closeHandle (O : OneV) (H : OneV) (V : MemV) (x1 : Int32) : MemV := (if x1 < 0 then V else (if (6 : Int32) ≤ x1 then V else gV_X1_release V (H 0 (ix x1))))
theorem s_X8_closeHandle {J : MJ} {o n m g z : Nat} (hO : WorL J o n m g z) (hH : HanL J g) (hM : MemL J m n) (d_OH : o + 1 ≤ g ∨ g + 1 ≤ o) (d_OV : o + 1 ≤ m ∨ m + 12 ≤ o) (d_HV : g + 1 ≤ m ∨ m + 12 ≤ g) (X : MI) (O : OneV) (H : OneV) (V : MemV) (x1 : Int32) : M_X8_closeHandle [mR (some o), mI x1] (pt (pt (pt X o O) g H) m V, J) = some (none, (pt (pt (pt X o O) g (gH_X8_closeHandle O H V x1)) m (gV_X8_closeHandle O H V x1), J)) := by
  generalize hR : some (none, (pt (pt (pt X o O) g (gH_X8_closeHandle O H V x1)) m (gV_X8_closeHandle O H V x1), J)) = R
  rw [E_X8_closeHandle]
  unfold gH_X8_closeHandle gV_X8_closeHandle at hR
  by_cases h1 : x1 < 0
  · rewrite [if_pos h1]; simp only [if_pos h1] at hR
    exact hR
  · rewrite [if_neg h1]; simp only [if_neg h1] at hR
    by_cases h2 : (6 : Int32) ≤ x1
    · rewrite [if_pos h2]; simp only [if_pos h2] at hR
      exact hR
    · rewrite [if_neg h2]; simp only [if_neg h2] at hR
      try rewrite [fR_ok 1 hO.k]
      try rewrite [Option.bind_some]
      try rewrite [hO.r1]
      try rewrite [fR_ok 2 hO.k]
      try rewrite [Option.bind_some]
      try rewrite [hO.r2]
      try simp only [Option.bind_some]
      try rewrite [ld_ok _ hH.s0 (inb_of rfl h1 h2)]
      try rewrite [Option.bind_some]
      try rewrite [pt_out (x := g) (a := m) (by have := d_HV; omega)]
      try rewrite [p1_0]
      try simp only [Option.bind_some]
      rewrite [if_pos (show kd (pt (pt (pt X o O) g H) m V, J) m = 1 from hM.k)]
      rewrite [s_X1_release hM]
      simp only [Option.bind_some, asV_n]
      try rewrite [fR_ok 2 hO.k]
      try rewrite [Option.bind_some]
      try rewrite [hO.r2]
      try simp only [Option.bind_some]
      try rewrite [st_ok _ _ hH.s0 (inb_of rfl h1 h2)]
      try rewrite [Option.bind_some]
      try rewrite [up_out (x := g) (a := m) (by have := d_HV; omega)]
      try rewrite [u1_0]
      exact hR
def q_X8_gapIn (L : Nat) (O : OneV) (P : RouV) (U : NodV) (V : MemV) (x1 : Int32) : Int32 := (if (0 : Int32) < (q_X4_last L P) then (if (q_X1_isAbsence (gV_X1_reach U V x1 (q_X4_last L P)) (q_X1_reach U V x1 (q_X4_last L P))) = 0 then (-1) else q_X1_reach U V x1 (q_X4_last L P)) else (-1))
def gV_X8_gapIn (L : Nat) (O : OneV) (P : RouV) (U : NodV) (V : MemV) (x1 : Int32) : MemV := (if (0 : Int32) < (q_X4_last L P) then (if (q_X1_isAbsence (gV_X1_reach U V x1 (q_X4_last L P)) (q_X1_reach U V x1 (q_X4_last L P))) = 0 then gV_X1_reach U V x1 (q_X4_last L P) else gV_X1_reach U V x1 (q_X4_last L P)) else V)
theorem s_X8_gapIn {J : MJ} {o n m g z r L : Nat} (hO : WorL J o n m g z) (hP : RouL J r L) (hN : NodL J n) (hM : MemL J m n) (d_OP : o + 1 ≤ r ∨ r + 2 ≤ o) (d_OU : o + 1 ≤ n ∨ n + 6 ≤ o) (d_OV : o + 1 ≤ m ∨ m + 12 ≤ o) (d_PU : r + 2 ≤ n ∨ n + 6 ≤ r) (d_PV : r + 2 ≤ m ∨ m + 12 ≤ r) (d_UV : n + 6 ≤ m ∨ m + 12 ≤ n) (X : MI) (O : OneV) (P : RouV) (U : NodV) (V : MemV) (x1 : Int32) : M_X8_gapIn [mR (some o), mI x1, mR (some r)] (pt (pt (pt (pt X o O) r P) n U) m V, J) = some (some (mI (q_X8_gapIn L O P U V x1)), (pt (pt (pt (pt X o O) r P) n U) m (gV_X8_gapIn L O P U V x1), J)) := by
  generalize hR : some (some (mI (q_X8_gapIn L O P U V x1)), (pt (pt (pt (pt X o O) r P) n U) m (gV_X8_gapIn L O P U V x1), J)) = R
  rw [E_X8_gapIn]
  unfold q_X8_gapIn gV_X8_gapIn at hR
  try simp only [Option.bind_some]
  rewrite [if_pos (show kd (pt (pt (pt (pt X o O) r P) n U) m V, J) r = 4 from hP.k)]
  rw [pt_comm (pt X o O) P U d_PU, pt_comm (pt (pt X o O) n U) P V d_PV]
  rw [s_X4_last hP]
  rw [pt_comm (pt (pt X o O) n U) V P (Or.symm d_PV), pt_comm (pt X o O) U P (Or.symm d_PU)]
  simp only [Option.bind_some, asI_I]
  by_cases h1 : (0 : Int32) < (q_X4_last L P)
  · rewrite [if_pos h1]; simp only [if_pos h1] at hR
    try rewrite [fR_ok 1 hO.k]
    try rewrite [Option.bind_some]
    try rewrite [hO.r1]
    try simp only [Option.bind_some]
    rewrite [if_pos (show kd (pt (pt (pt (pt X o O) r P) n U) m V, J) m = 1 from hM.k)]
    rewrite [s_X1_reach hN hM d_UV]
    simp only [Option.bind_some, asI_I]
    try rewrite [fR_ok 1 hO.k]
    try rewrite [Option.bind_some]
    try rewrite [hO.r1]
    try simp only [Option.bind_some]
    rewrite [if_pos (show kd (pt (pt (pt (pt X o O) r P) n U) m (gV_X1_reach U V x1 (q_X4_last L P)), J) m = 1 from hM.k)]
    rewrite [s_X1_isAbsence hM]
    simp only [Option.bind_some, asI_I]
    by_cases h2 : (q_X1_isAbsence (gV_X1_reach U V x1 (q_X4_last L P)) (q_X1_reach U V x1 (q_X4_last L P))) = 0
    · rewrite [if_pos h2]; simp only [if_pos h2] at hR
      exact hR
    · rewrite [if_neg h2]; simp only [if_neg h2] at hR
      exact hR
  · rewrite [if_neg h1]; simp only [if_neg h1] at hR
    exact hR
def q_X8_makeAt (L : Nat) (O : OneV) (P : RouV) (U : NodV) (V : MemV) (x2 : Int32) : Int32 := (if (q_X1_isFolder U (gV_X1_walk L P U V ((P 0 1) - 1)) (q_X1_walk L P U V ((P 0 1) - 1))) = 0 then (-1) else (if (q_X8_gapIn L O P U (gV_X1_walk L P U V ((P 0 1) - 1)) (q_X1_walk L P U V ((P 0 1) - 1))) = ((-1)) then (-1) else (if x2 = 0 then q_X1_fill U (gV_X8_gapIn L O P U (gV_X1_walk L P U V ((P 0 1) - 1)) (q_X1_walk L P U V ((P 0 1) - 1))) (q_X8_gapIn L O P U (gV_X1_walk L P U V ((P 0 1) - 1)) (q_X1_walk L P U V ((P 0 1) - 1))) 1 else q_X1_fill U (gV_X8_gapIn L O P U (gV_X1_walk L P U V ((P 0 1) - 1)) (q_X1_walk L P U V ((P 0 1) - 1))) (q_X8_gapIn L O P U (gV_X1_walk L P U V ((P 0 1) - 1)) (q_X1_walk L P U V ((P 0 1) - 1))) 2)))
def gU_X8_makeAt (L : Nat) (O : OneV) (P : RouV) (U : NodV) (V : MemV) (x2 : Int32) : NodV := (if (q_X1_isFolder U (gV_X1_walk L P U V ((P 0 1) - 1)) (q_X1_walk L P U V ((P 0 1) - 1))) = 0 then U else (if (q_X8_gapIn L O P U (gV_X1_walk L P U V ((P 0 1) - 1)) (q_X1_walk L P U V ((P 0 1) - 1))) = ((-1)) then U else (if x2 = 0 then gU_X1_fill U (gV_X8_gapIn L O P U (gV_X1_walk L P U V ((P 0 1) - 1)) (q_X1_walk L P U V ((P 0 1) - 1))) (q_X8_gapIn L O P U (gV_X1_walk L P U V ((P 0 1) - 1)) (q_X1_walk L P U V ((P 0 1) - 1))) 1 else gU_X1_fill U (gV_X8_gapIn L O P U (gV_X1_walk L P U V ((P 0 1) - 1)) (q_X1_walk L P U V ((P 0 1) - 1))) (q_X8_gapIn L O P U (gV_X1_walk L P U V ((P 0 1) - 1)) (q_X1_walk L P U V ((P 0 1) - 1))) 2)))
def gV_X8_makeAt (L : Nat) (O : OneV) (P : RouV) (U : NodV) (V : MemV) (x2 : Int32) : MemV := (if (q_X1_isFolder U (gV_X1_walk L P U V ((P 0 1) - 1)) (q_X1_walk L P U V ((P 0 1) - 1))) = 0 then gV_X1_walk L P U V ((P 0 1) - 1) else (if (q_X8_gapIn L O P U (gV_X1_walk L P U V ((P 0 1) - 1)) (q_X1_walk L P U V ((P 0 1) - 1))) = ((-1)) then gV_X8_gapIn L O P U (gV_X1_walk L P U V ((P 0 1) - 1)) (q_X1_walk L P U V ((P 0 1) - 1)) else (if x2 = 0 then gV_X1_fill U (gV_X8_gapIn L O P U (gV_X1_walk L P U V ((P 0 1) - 1)) (q_X1_walk L P U V ((P 0 1) - 1))) (q_X8_gapIn L O P U (gV_X1_walk L P U V ((P 0 1) - 1)) (q_X1_walk L P U V ((P 0 1) - 1))) 1 else gV_X1_fill U (gV_X8_gapIn L O P U (gV_X1_walk L P U V ((P 0 1) - 1)) (q_X1_walk L P U V ((P 0 1) - 1))) (q_X8_gapIn L O P U (gV_X1_walk L P U V ((P 0 1) - 1)) (q_X1_walk L P U V ((P 0 1) - 1))) 2)))
theorem s_X8_makeAt {J : MJ} {o n m g z r L : Nat} (hO : WorL J o n m g z) (hP : RouL J r L) (hN : NodL J n) (hM : MemL J m n) (d_OP : o + 1 ≤ r ∨ r + 2 ≤ o) (d_OU : o + 1 ≤ n ∨ n + 6 ≤ o) (d_OV : o + 1 ≤ m ∨ m + 12 ≤ o) (d_PU : r + 2 ≤ n ∨ n + 6 ≤ r) (d_PV : r + 2 ≤ m ∨ m + 12 ≤ r) (d_UV : n + 6 ≤ m ∨ m + 12 ≤ n) (X : MI) (O : OneV) (P : RouV) (U : NodV) (V : MemV) (x2 : Int32) : M_X8_makeAt [mR (some o), mR (some r), mI x2] (pt (pt (pt (pt X o O) r P) n U) m V, J) = some (some (mI (q_X8_makeAt L O P U V x2)), (pt (pt (pt (pt X o O) r P) n (gU_X8_makeAt L O P U V x2)) m (gV_X8_makeAt L O P U V x2), J)) := by
  generalize hR : some (some (mI (q_X8_makeAt L O P U V x2)), (pt (pt (pt (pt X o O) r P) n (gU_X8_makeAt L O P U V x2)) m (gV_X8_makeAt L O P U V x2), J)) = R
  rw [E_X8_makeAt]
  unfold q_X8_makeAt gU_X8_makeAt gV_X8_makeAt at hR
  try rewrite [fR_ok 1 hO.k]
  try rewrite [Option.bind_some]
  try rewrite [hO.r1]
  try rewrite [fI_ok 1 hP.k]
  try rewrite [Option.bind_some]
  try rewrite [pt_out (x := r) (a := m) (by have := d_PV; omega)]
  try rewrite [pt_out (x := r) (a := n) (by have := d_PU; omega)]
  try rewrite [p2_0]
  try simp only [Option.bind_some]
  rewrite [if_pos (show kd (pt (pt (pt (pt X o O) r P) n U) m V, J) m = 1 from hM.k)]
  rewrite [s_X1_walk hP hN hM d_PU d_PV d_UV]
  simp only [Option.bind_some, asI_I]
  try rewrite [fR_ok 1 hO.k]
  try rewrite [Option.bind_some]
  try rewrite [hO.r1]
  try simp only [Option.bind_some]
  rewrite [if_pos (show kd (pt (pt (pt (pt X o O) r P) n U) m (gV_X1_walk L P U V ((P 0 1) - 1)), J) m = 1 from hM.k)]
  rewrite [s_X1_isFolder hN hM d_UV]
  simp only [Option.bind_some, asI_I]
  by_cases h1 : (q_X1_isFolder U (gV_X1_walk L P U V ((P 0 1) - 1)) (q_X1_walk L P U V ((P 0 1) - 1))) = 0
  · rewrite [if_pos h1]; simp only [if_pos h1] at hR
    first | rewrite [if_pos (show ((-1) : Int32) = ((-1)) by decide)] | rewrite [if_pos trivial] | simp only [if_true]
    exact hR
  · rewrite [if_neg h1]; simp only [if_neg h1] at hR
    try simp only [Option.bind_some]
    rewrite [if_pos (show kd (pt (pt (pt (pt X o O) r P) n U) m (gV_X1_walk L P U V ((P 0 1) - 1)), J) o = 8 from hO.k)]
    rewrite [s_X8_gapIn hO hP hN hM d_OP d_OU d_OV d_PU d_PV d_UV]
    simp only [Option.bind_some, asI_I]
    by_cases h2 : (q_X8_gapIn L O P U (gV_X1_walk L P U V ((P 0 1) - 1)) (q_X1_walk L P U V ((P 0 1) - 1))) = ((-1))
    · rewrite [if_pos h2]; simp only [if_pos h2] at hR
      exact hR
    · rewrite [if_neg h2]; simp only [if_neg h2] at hR
      try rewrite [fR_ok 1 hO.k]
      try rewrite [Option.bind_some]
      try rewrite [hO.r1]
      by_cases h3 : x2 = 0
      · rewrite [if_pos h3]; simp only [if_pos h3] at hR
        try simp only [Option.bind_some]
        rewrite [if_pos (show kd (pt (pt (pt (pt X o O) r P) n U) m (gV_X8_gapIn L O P U (gV_X1_walk L P U V ((P 0 1) - 1)) (q_X1_walk L P U V ((P 0 1) - 1))), J) m = 1 from hM.k)]
        rewrite [s_X1_fill hN hM d_UV]
        simp only [Option.bind_some, asI_I]
        exact hR
      · rewrite [if_neg h3]; simp only [if_neg h3] at hR
        try simp only [Option.bind_some]
        rewrite [if_pos (show kd (pt (pt (pt (pt X o O) r P) n U) m (gV_X8_gapIn L O P U (gV_X1_walk L P U V ((P 0 1) - 1)) (q_X1_walk L P U V ((P 0 1) - 1))), J) m = 1 from hM.k)]
        rewrite [s_X1_fill hN hM d_UV]
        simp only [Option.bind_some, asI_I]
        exact hR
def q_X8_removeAt (L : Nat) (O : OneV) (P : RouV) (U : NodV) (V : MemV) : Int32 := (if (q_X1_canChange (gV_X1_walk L P U V (P 0 1)) (q_X1_walk L P U V (P 0 1))) = 0 then (-1) else (if (q_X2_howManyIn U (q_X1_nodeOf (gV_X1_walk L P U V (P 0 1)) (q_X1_walk L P U V (P 0 1)))) ≤ 0 then q_X1_nodeOf (gV_X1_walk L P U V (P 0 1)) (q_X1_walk L P U V (P 0 1)) else (-1)))
def gU_X8_removeAt (L : Nat) (O : OneV) (P : RouV) (U : NodV) (V : MemV) : NodV := (if (q_X1_canChange (gV_X1_walk L P U V (P 0 1)) (q_X1_walk L P U V (P 0 1))) = 0 then U else (if (q_X2_howManyIn U (q_X1_nodeOf (gV_X1_walk L P U V (P 0 1)) (q_X1_walk L P U V (P 0 1)))) ≤ 0 then gU_X2_take U (q_X1_nodeOf (gV_X1_walk L P U V (P 0 1)) (q_X1_walk L P U V (P 0 1))) else U))
def gV_X8_removeAt (L : Nat) (O : OneV) (P : RouV) (U : NodV) (V : MemV) : MemV := (if (q_X1_canChange (gV_X1_walk L P U V (P 0 1)) (q_X1_walk L P U V (P 0 1))) = 0 then gV_X1_walk L P U V (P 0 1) else (if (q_X2_howManyIn U (q_X1_nodeOf (gV_X1_walk L P U V (P 0 1)) (q_X1_walk L P U V (P 0 1)))) ≤ 0 then gV_X1_empty (gV_X1_walk L P U V (P 0 1)) (q_X1_walk L P U V (P 0 1)) else gV_X1_walk L P U V (P 0 1)))
theorem s_X8_removeAt {J : MJ} {o n m g z r L : Nat} (hO : WorL J o n m g z) (hP : RouL J r L) (hN : NodL J n) (hM : MemL J m n) (d_OP : o + 1 ≤ r ∨ r + 2 ≤ o) (d_OU : o + 1 ≤ n ∨ n + 6 ≤ o) (d_OV : o + 1 ≤ m ∨ m + 12 ≤ o) (d_PU : r + 2 ≤ n ∨ n + 6 ≤ r) (d_PV : r + 2 ≤ m ∨ m + 12 ≤ r) (d_UV : n + 6 ≤ m ∨ m + 12 ≤ n) (X : MI) (O : OneV) (P : RouV) (U : NodV) (V : MemV) : M_X8_removeAt [mR (some o), mR (some r)] (pt (pt (pt (pt X o O) r P) n U) m V, J) = some (some (mI (q_X8_removeAt L O P U V)), (pt (pt (pt (pt X o O) r P) n (gU_X8_removeAt L O P U V)) m (gV_X8_removeAt L O P U V), J)) := by
  generalize hR : some (some (mI (q_X8_removeAt L O P U V)), (pt (pt (pt (pt X o O) r P) n (gU_X8_removeAt L O P U V)) m (gV_X8_removeAt L O P U V), J)) = R
  rw [E_X8_removeAt]
  unfold q_X8_removeAt gU_X8_removeAt gV_X8_removeAt at hR
  try rewrite [fR_ok 1 hO.k]
  try rewrite [Option.bind_some]
  try rewrite [hO.r1]
  try rewrite [fI_ok 1 hP.k]
  try rewrite [Option.bind_some]
  try rewrite [pt_out (x := r) (a := m) (by have := d_PV; omega)]
  try rewrite [pt_out (x := r) (a := n) (by have := d_PU; omega)]
  try rewrite [p2_0]
  try simp only [Option.bind_some]
  rewrite [if_pos (show kd (pt (pt (pt (pt X o O) r P) n U) m V, J) m = 1 from hM.k)]
  rewrite [s_X1_walk hP hN hM d_PU d_PV d_UV]
  simp only [Option.bind_some, asI_I]
  try rewrite [fR_ok 1 hO.k]
  try rewrite [Option.bind_some]
  try rewrite [hO.r1]
  try simp only [Option.bind_some]
  rewrite [if_pos (show kd (pt (pt (pt (pt X o O) r P) n U) m (gV_X1_walk L P U V (P 0 1)), J) m = 1 from hM.k)]
  rewrite [s_X1_nodeOf hM]
  simp only [Option.bind_some, asI_I]
  try rewrite [fR_ok 1 hO.k]
  try rewrite [Option.bind_some]
  try rewrite [hO.r1]
  try simp only [Option.bind_some]
  rewrite [if_pos (show kd (pt (pt (pt (pt X o O) r P) n U) m (gV_X1_walk L P U V (P 0 1)), J) m = 1 from hM.k)]
  rewrite [s_X1_canChange hM]
  simp only [Option.bind_some, asI_I]
  by_cases h1 : (q_X1_canChange (gV_X1_walk L P U V (P 0 1)) (q_X1_walk L P U V (P 0 1))) = 0
  · rewrite [if_pos h1]; simp only [if_pos h1] at hR
    exact hR
  · rewrite [if_neg h1]; simp only [if_neg h1] at hR
    try rewrite [fR_ok 0 hO.k]
    try rewrite [Option.bind_some]
    try rewrite [hO.r0]
    try simp only [Option.bind_some]
    rewrite [if_pos (show kd (pt (pt (pt (pt X o O) r P) n U) m (gV_X1_walk L P U V (P 0 1)), J) n = 2 from hN.k)]
    rw [pt_comm (pt (pt X o O) r P) U (gV_X1_walk L P U V (P 0 1)) d_UV]
    rw [s_X2_howManyIn hN]
    rw [pt_comm (pt (pt X o O) r P) (gV_X1_walk L P U V (P 0 1)) U (Or.symm d_UV)]
    simp only [Option.bind_some, asI_I]
    by_cases h2 : (q_X2_howManyIn U (q_X1_nodeOf (gV_X1_walk L P U V (P 0 1)) (q_X1_walk L P U V (P 0 1)))) ≤ 0
    · rewrite [if_pos h2]; simp only [if_pos h2] at hR
      try rewrite [fR_ok 0 hO.k]
      try rewrite [Option.bind_some]
      try rewrite [hO.r0]
      try simp only [Option.bind_some]
      rewrite [if_pos (show kd (pt (pt (pt (pt X o O) r P) n U) m (gV_X1_walk L P U V (P 0 1)), J) n = 2 from hN.k)]
      rw [pt_comm (pt (pt X o O) r P) U (gV_X1_walk L P U V (P 0 1)) d_UV]
      rw [s_X2_take hN]
      rw [pt_comm (pt (pt X o O) r P) (gV_X1_walk L P U V (P 0 1)) (gU_X2_take U (q_X1_nodeOf (gV_X1_walk L P U V (P 0 1)) (q_X1_walk L P U V (P 0 1)))) (Or.symm d_UV)]
      simp only [Option.bind_some, asV_n]
      try rewrite [fR_ok 1 hO.k]
      try rewrite [Option.bind_some]
      try rewrite [hO.r1]
      try simp only [Option.bind_some]
      rewrite [if_pos (show kd (pt (pt (pt (pt X o O) r P) n (gU_X2_take U (q_X1_nodeOf (gV_X1_walk L P U V (P 0 1)) (q_X1_walk L P U V (P 0 1))))) m (gV_X1_walk L P U V (P 0 1)), J) m = 1 from hM.k)]
      rewrite [s_X1_empty hM]
      simp only [Option.bind_some, asV_n]
      exact hR
    · rewrite [if_neg h2]; simp only [if_neg h2] at hR
      exact hR
def q_X8_canTake (O : OneV) (U : NodV) (V : MemV) (x1 : Int32) (x2 : Int32) : Int32 := (if (q_X1_isFolder U V x1) = 0 then 0 else (if (q_X2_volumeOf U (q_X1_nodeOf V x2)) = (q_X2_volumeOf U (q_X1_nodeOf V x1)) then (if (q_X1_isWithin V x1 x2) = 0 then 1 else 0) else 0))
theorem s_X8_canTake {J : MJ} {o n m g z : Nat} (hO : WorL J o n m g z) (hN : NodL J n) (hM : MemL J m n) (d_OU : o + 1 ≤ n ∨ n + 6 ≤ o) (d_OV : o + 1 ≤ m ∨ m + 12 ≤ o) (d_UV : n + 6 ≤ m ∨ m + 12 ≤ n) (X : MI) (O : OneV) (U : NodV) (V : MemV) (x1 : Int32) (x2 : Int32) : M_X8_canTake [mR (some o), mI x1, mI x2] (pt (pt (pt X o O) n U) m V, J) = some (some (mI (q_X8_canTake O U V x1 x2)), (pt (pt (pt X o O) n U) m V, J)) := by
  generalize hR : some (some (mI (q_X8_canTake O U V x1 x2)), (pt (pt (pt X o O) n U) m V, J)) = R
  rw [E_X8_canTake]
  unfold q_X8_canTake at hR
  try rewrite [fR_ok 0 hO.k]
  try rewrite [Option.bind_some]
  try rewrite [hO.r0]
  try rewrite [fR_ok 1 hO.k]
  try rewrite [Option.bind_some]
  try rewrite [hO.r1]
  try simp only [Option.bind_some]
  rewrite [if_pos (show kd (pt (pt (pt X o O) n U) m V, J) m = 1 from hM.k)]
  rewrite [s_X1_nodeOf hM]
  simp only [Option.bind_some, asI_I]
  try simp only [Option.bind_some]
  rewrite [if_pos (show kd (pt (pt (pt X o O) n U) m V, J) n = 2 from hN.k)]
  rw [pt_comm (pt X o O) U V d_UV]
  rw [s_X2_volumeOf hN]
  rw [pt_comm (pt X o O) V U (Or.symm d_UV)]
  simp only [Option.bind_some, asI_I]
  try rewrite [fR_ok 0 hO.k]
  try rewrite [Option.bind_some]
  try rewrite [hO.r0]
  try rewrite [fR_ok 1 hO.k]
  try rewrite [Option.bind_some]
  try rewrite [hO.r1]
  try simp only [Option.bind_some]
  rewrite [if_pos (show kd (pt (pt (pt X o O) n U) m V, J) m = 1 from hM.k)]
  rewrite [s_X1_nodeOf hM]
  simp only [Option.bind_some, asI_I]
  try simp only [Option.bind_some]
  rewrite [if_pos (show kd (pt (pt (pt X o O) n U) m V, J) n = 2 from hN.k)]
  rw [pt_comm (pt X o O) U V d_UV]
  rw [s_X2_volumeOf hN]
  rw [pt_comm (pt X o O) V U (Or.symm d_UV)]
  simp only [Option.bind_some, asI_I]
  try rewrite [fR_ok 1 hO.k]
  try rewrite [Option.bind_some]
  try rewrite [hO.r1]
  try simp only [Option.bind_some]
  rewrite [if_pos (show kd (pt (pt (pt X o O) n U) m V, J) m = 1 from hM.k)]
  rewrite [s_X1_isFolder hN hM d_UV]
  simp only [Option.bind_some, asI_I]
  by_cases h1 : (q_X1_isFolder U V x1) = 0
  · rewrite [if_pos h1]; simp only [if_pos h1] at hR
    first | exact hR | (simp only [if_pos (show (0 : Int32) = 0 ∨ (0 : Int32) = 1 by decide), if_pos (show (1 : Int32) = 0 ∨ (1 : Int32) = 1 by decide)]; exact hR) | (simp; exact hR)
  · rewrite [if_neg h1]; simp only [if_neg h1] at hR
    by_cases h2 : (q_X2_volumeOf U (q_X1_nodeOf V x2)) = (q_X2_volumeOf U (q_X1_nodeOf V x1))
    · rewrite [if_pos h2]; simp only [if_pos h2] at hR
      try rewrite [fR_ok 1 hO.k]
      try rewrite [Option.bind_some]
      try rewrite [hO.r1]
      try simp only [Option.bind_some]
      rewrite [if_pos (show kd (pt (pt (pt X o O) n U) m V, J) m = 1 from hM.k)]
      rewrite [s_X1_isWithin hM]
      simp only [Option.bind_some, asI_I]
      by_cases h3 : (q_X1_isWithin V x1 x2) = 0
      · rewrite [if_pos h3]; simp only [if_pos h3] at hR
        first | exact hR | (simp only [if_pos (show (0 : Int32) = 0 ∨ (0 : Int32) = 1 by decide), if_pos (show (1 : Int32) = 0 ∨ (1 : Int32) = 1 by decide)]; exact hR) | (simp; exact hR)
      · rewrite [if_neg h3]; simp only [if_neg h3] at hR
        first | exact hR | (simp only [if_pos (show (0 : Int32) = 0 ∨ (0 : Int32) = 1 by decide), if_pos (show (1 : Int32) = 0 ∨ (1 : Int32) = 1 by decide)]; exact hR) | (simp; exact hR)
    · rewrite [if_neg h2]; simp only [if_neg h2] at hR
      first | exact hR | (simp only [if_pos (show (0 : Int32) = 0 ∨ (0 : Int32) = 1 by decide), if_pos (show (1 : Int32) = 0 ∨ (1 : Int32) = 1 by decide)]; exact hR) | (simp; exact hR)
theorem b_X8_canTake_0 {O : OneV} {U : NodV} {V : MemV} {x1 : Int32} {x2 : Int32} (h : ¬ q_X8_canTake O U V x1 x2 = 0) : inb x1 64 := by
  unfold q_X8_canTake at h
  by_cases k1 : (q_X1_isFolder U V x1) = 0
  · simp only [if_pos k1] at h
    first | exact absurd rfl h | exact absurd trivial h
  · simp only [if_neg k1] at h
    by_cases k2 : (q_X2_volumeOf U (q_X1_nodeOf V x2)) = (q_X2_volumeOf U (q_X1_nodeOf V x1))
    · simp only [if_pos k2] at h
      by_cases k3 : (q_X1_isWithin V x1 x2) = 0
      · simp only [if_pos k3] at h
        exact (b_X1_isFolder_0 k1)
      · simp only [if_neg k3] at h
        first | exact absurd rfl h | exact absurd trivial h
    · simp only [if_neg k2] at h
      first | exact absurd rfl h | exact absurd trivial h
def q_X8_renameTo (L2 : Nat) (L : Nat) (O : OneV) (P2 : RouV) (P : RouV) (U : NodV) (V : MemV) : Int32 := (if (q_X1_canChange (gV_X1_walk L P U V (P 0 1)) (q_X1_walk L P U V (P 0 1))) = 0 then (-1) else (if (q_X8_canTake O U (gV_X1_walk L2 P2 U (gV_X1_hold (gV_X1_walk L P U V (P 0 1)) (q_X1_walk L P U V (P 0 1))) ((P2 0 1) - 1)) (q_X1_walk L2 P2 U (gV_X1_hold (gV_X1_walk L P U V (P 0 1)) (q_X1_walk L P U V (P 0 1))) ((P2 0 1) - 1)) (q_X1_walk L P U V (P 0 1))) = 0 then (-1) else (if (q_X8_gapIn L2 O P2 U (gV_X1_walk L2 P2 U (gV_X1_hold (gV_X1_walk L P U V (P 0 1)) (q_X1_walk L P U V (P 0 1))) ((P2 0 1) - 1)) (q_X1_walk L2 P2 U (gV_X1_hold (gV_X1_walk L P U V (P 0 1)) (q_X1_walk L P U V (P 0 1))) ((P2 0 1) - 1))) = ((-1)) then (-1) else q_X1_walk L P U V (P 0 1))))
def gU_X8_renameTo (L2 : Nat) (L : Nat) (O : OneV) (P2 : RouV) (P : RouV) (U : NodV) (V : MemV) : NodV := (if (q_X1_canChange (gV_X1_walk L P U V (P 0 1)) (q_X1_walk L P U V (P 0 1))) = 0 then U else (if (q_X8_canTake O U (gV_X1_walk L2 P2 U (gV_X1_hold (gV_X1_walk L P U V (P 0 1)) (q_X1_walk L P U V (P 0 1))) ((P2 0 1) - 1)) (q_X1_walk L2 P2 U (gV_X1_hold (gV_X1_walk L P U V (P 0 1)) (q_X1_walk L P U V (P 0 1))) ((P2 0 1) - 1)) (q_X1_walk L P U V (P 0 1))) = 0 then U else (if (q_X8_gapIn L2 O P2 U (gV_X1_walk L2 P2 U (gV_X1_hold (gV_X1_walk L P U V (P 0 1)) (q_X1_walk L P U V (P 0 1))) ((P2 0 1) - 1)) (q_X1_walk L2 P2 U (gV_X1_hold (gV_X1_walk L P U V (P 0 1)) (q_X1_walk L P U V (P 0 1))) ((P2 0 1) - 1))) = ((-1)) then U else gU_X2_move U (q_X1_nodeOf (gV_X1_drop (gV_X1_release (gV_X8_gapIn L2 O P2 U (gV_X1_walk L2 P2 U (gV_X1_hold (gV_X1_walk L P U V (P 0 1)) (q_X1_walk L P U V (P 0 1))) ((P2 0 1) - 1)) (q_X1_walk L2 P2 U (gV_X1_hold (gV_X1_walk L P U V (P 0 1)) (q_X1_walk L P U V (P 0 1))) ((P2 0 1) - 1))) (q_X1_walk L P U V (P 0 1))) (q_X8_gapIn L2 O P2 U (gV_X1_walk L2 P2 U (gV_X1_hold (gV_X1_walk L P U V (P 0 1)) (q_X1_walk L P U V (P 0 1))) ((P2 0 1) - 1)) (q_X1_walk L2 P2 U (gV_X1_hold (gV_X1_walk L P U V (P 0 1)) (q_X1_walk L P U V (P 0 1))) ((P2 0 1) - 1)))) (q_X1_walk L P U V (P 0 1))) (q_X1_nodeOf (gV_X1_drop (gV_X1_release (gV_X8_gapIn L2 O P2 U (gV_X1_walk L2 P2 U (gV_X1_hold (gV_X1_walk L P U V (P 0 1)) (q_X1_walk L P U V (P 0 1))) ((P2 0 1) - 1)) (q_X1_walk L2 P2 U (gV_X1_hold (gV_X1_walk L P U V (P 0 1)) (q_X1_walk L P U V (P 0 1))) ((P2 0 1) - 1))) (q_X1_walk L P U V (P 0 1))) (q_X8_gapIn L2 O P2 U (gV_X1_walk L2 P2 U (gV_X1_hold (gV_X1_walk L P U V (P 0 1)) (q_X1_walk L P U V (P 0 1))) ((P2 0 1) - 1)) (q_X1_walk L2 P2 U (gV_X1_hold (gV_X1_walk L P U V (P 0 1)) (q_X1_walk L P U V (P 0 1))) ((P2 0 1) - 1)))) (q_X1_walk L2 P2 U (gV_X1_hold (gV_X1_walk L P U V (P 0 1)) (q_X1_walk L P U V (P 0 1))) ((P2 0 1) - 1))) (q_X4_last L2 P2))))
def gV_X8_renameTo (L2 : Nat) (L : Nat) (O : OneV) (P2 : RouV) (P : RouV) (U : NodV) (V : MemV) : MemV := (if (q_X1_canChange (gV_X1_walk L P U V (P 0 1)) (q_X1_walk L P U V (P 0 1))) = 0 then gV_X1_walk L P U V (P 0 1) else (if (q_X8_canTake O U (gV_X1_walk L2 P2 U (gV_X1_hold (gV_X1_walk L P U V (P 0 1)) (q_X1_walk L P U V (P 0 1))) ((P2 0 1) - 1)) (q_X1_walk L2 P2 U (gV_X1_hold (gV_X1_walk L P U V (P 0 1)) (q_X1_walk L P U V (P 0 1))) ((P2 0 1) - 1)) (q_X1_walk L P U V (P 0 1))) = 0 then gV_X1_release (gV_X1_walk L2 P2 U (gV_X1_hold (gV_X1_walk L P U V (P 0 1)) (q_X1_walk L P U V (P 0 1))) ((P2 0 1) - 1)) (q_X1_walk L P U V (P 0 1)) else (if (q_X8_gapIn L2 O P2 U (gV_X1_walk L2 P2 U (gV_X1_hold (gV_X1_walk L P U V (P 0 1)) (q_X1_walk L P U V (P 0 1))) ((P2 0 1) - 1)) (q_X1_walk L2 P2 U (gV_X1_hold (gV_X1_walk L P U V (P 0 1)) (q_X1_walk L P U V (P 0 1))) ((P2 0 1) - 1))) = ((-1)) then gV_X1_release (gV_X8_gapIn L2 O P2 U (gV_X1_walk L2 P2 U (gV_X1_hold (gV_X1_walk L P U V (P 0 1)) (q_X1_walk L P U V (P 0 1))) ((P2 0 1) - 1)) (q_X1_walk L2 P2 U (gV_X1_hold (gV_X1_walk L P U V (P 0 1)) (q_X1_walk L P U V (P 0 1))) ((P2 0 1) - 1))) (q_X1_walk L P U V (P 0 1)) else gV_X1_move (gV_X1_drop (gV_X1_release (gV_X8_gapIn L2 O P2 U (gV_X1_walk L2 P2 U (gV_X1_hold (gV_X1_walk L P U V (P 0 1)) (q_X1_walk L P U V (P 0 1))) ((P2 0 1) - 1)) (q_X1_walk L2 P2 U (gV_X1_hold (gV_X1_walk L P U V (P 0 1)) (q_X1_walk L P U V (P 0 1))) ((P2 0 1) - 1))) (q_X1_walk L P U V (P 0 1))) (q_X8_gapIn L2 O P2 U (gV_X1_walk L2 P2 U (gV_X1_hold (gV_X1_walk L P U V (P 0 1)) (q_X1_walk L P U V (P 0 1))) ((P2 0 1) - 1)) (q_X1_walk L2 P2 U (gV_X1_hold (gV_X1_walk L P U V (P 0 1)) (q_X1_walk L P U V (P 0 1))) ((P2 0 1) - 1)))) (q_X1_walk L P U V (P 0 1)) (q_X1_walk L2 P2 U (gV_X1_hold (gV_X1_walk L P U V (P 0 1)) (q_X1_walk L P U V (P 0 1))) ((P2 0 1) - 1)) (q_X4_last L2 P2))))
theorem s_X8_renameTo {J : MJ} {o n m g z r2 L2 r L : Nat} (hO : WorL J o n m g z) (hP2 : RouL J r2 L2) (hP : RouL J r L) (hN : NodL J n) (hM : MemL J m n) (d_OP2 : o + 1 ≤ r2 ∨ r2 + 2 ≤ o) (d_OP : o + 1 ≤ r ∨ r + 2 ≤ o) (d_OU : o + 1 ≤ n ∨ n + 6 ≤ o) (d_OV : o + 1 ≤ m ∨ m + 12 ≤ o) (d_P2P : r2 + 2 ≤ r ∨ r + 2 ≤ r2) (d_P2U : r2 + 2 ≤ n ∨ n + 6 ≤ r2) (d_P2V : r2 + 2 ≤ m ∨ m + 12 ≤ r2) (d_PU : r + 2 ≤ n ∨ n + 6 ≤ r) (d_PV : r + 2 ≤ m ∨ m + 12 ≤ r) (d_UV : n + 6 ≤ m ∨ m + 12 ≤ n) (X : MI) (O : OneV) (P2 : RouV) (P : RouV) (U : NodV) (V : MemV) : M_X8_renameTo [mR (some o), mR (some r), mR (some r2)] (pt (pt (pt (pt (pt X o O) r2 P2) r P) n U) m V, J) = some (some (mI (q_X8_renameTo L2 L O P2 P U V)), (pt (pt (pt (pt (pt X o O) r2 P2) r P) n (gU_X8_renameTo L2 L O P2 P U V)) m (gV_X8_renameTo L2 L O P2 P U V), J)) := by
  generalize hR : some (some (mI (q_X8_renameTo L2 L O P2 P U V)), (pt (pt (pt (pt (pt X o O) r2 P2) r P) n (gU_X8_renameTo L2 L O P2 P U V)) m (gV_X8_renameTo L2 L O P2 P U V), J)) = R
  rw [E_X8_renameTo]
  unfold q_X8_renameTo gU_X8_renameTo gV_X8_renameTo at hR
  try rewrite [fR_ok 1 hO.k]
  try rewrite [Option.bind_some]
  try rewrite [hO.r1]
  try rewrite [fI_ok 1 hP.k]
  try rewrite [Option.bind_some]
  try rewrite [pt_out (x := r) (a := m) (by have := d_PV; omega)]
  try rewrite [pt_out (x := r) (a := n) (by have := d_PU; omega)]
  try rewrite [p2_0]
  try simp only [Option.bind_some]
  rewrite [if_pos (show kd (pt (pt (pt (pt (pt X o O) r2 P2) r P) n U) m V, J) m = 1 from hM.k)]
  rewrite [s_X1_walk hP hN hM d_PU d_PV d_UV]
  simp only [Option.bind_some, asI_I]
  try rewrite [fR_ok 1 hO.k]
  try rewrite [Option.bind_some]
  try rewrite [hO.r1]
  try simp only [Option.bind_some]
  rewrite [if_pos (show kd (pt (pt (pt (pt (pt X o O) r2 P2) r P) n U) m (gV_X1_walk L P U V (P 0 1)), J) m = 1 from hM.k)]
  rewrite [s_X1_canChange hM]
  simp only [Option.bind_some, asI_I]
  by_cases h1 : (q_X1_canChange (gV_X1_walk L P U V (P 0 1)) (q_X1_walk L P U V (P 0 1))) = 0
  · rewrite [if_pos h1]; simp only [if_pos h1] at hR
    exact hR
  · rewrite [if_neg h1]; simp only [if_neg h1] at hR
    try rewrite [fR_ok 1 hO.k]
    try rewrite [Option.bind_some]
    try rewrite [hO.r1]
    try simp only [Option.bind_some]
    rewrite [if_pos (show kd (pt (pt (pt (pt (pt X o O) r2 P2) r P) n U) m (gV_X1_walk L P U V (P 0 1)), J) m = 1 from hM.k)]
    rewrite [s_X1_hold hM]
    simp only [Option.bind_some, asV_n]
    try rewrite [fR_ok 1 hO.k]
    try rewrite [Option.bind_some]
    try rewrite [hO.r1]
    try rewrite [fI_ok 1 hP2.k]
    try rewrite [Option.bind_some]
    try rewrite [pt_out (x := r2) (a := m) (by have := d_P2V; omega)]
    try rewrite [pt_out (x := r2) (a := n) (by have := d_P2U; omega)]
    try rewrite [pt_out (x := r2) (a := r) (by have := d_P2P; omega)]
    try rewrite [p2_0]
    try simp only [Option.bind_some]
    rewrite [if_pos (show kd (pt (pt (pt (pt (pt X o O) r2 P2) r P) n U) m (gV_X1_hold (gV_X1_walk L P U V (P 0 1)) (q_X1_walk L P U V (P 0 1))), J) m = 1 from hM.k)]
    rw [pt_comm (pt X o O) P2 P d_P2P]
    rw [s_X1_walk hP2 hN hM d_P2U d_P2V d_UV]
    rw [pt_comm (pt X o O) P P2 (Or.symm d_P2P)]
    simp only [Option.bind_some, asI_I]
    try simp only [Option.bind_some]
    rewrite [if_pos (show kd (pt (pt (pt (pt (pt X o O) r2 P2) r P) n U) m (gV_X1_walk L2 P2 U (gV_X1_hold (gV_X1_walk L P U V (P 0 1)) (q_X1_walk L P U V (P 0 1))) ((P2 0 1) - 1)), J) o = 8 from hO.k)]
    rw [pt_comm X O P2 d_OP2, pt_comm (pt X r2 P2) O P d_OP]
    rw [s_X8_canTake hO hN hM d_OU d_OV d_UV]
    rw [pt_comm (pt X r2 P2) P O (Or.symm d_OP), pt_comm X P2 O (Or.symm d_OP2)]
    simp only [Option.bind_some, asI_I]
    by_cases h2 : (q_X8_canTake O U (gV_X1_walk L2 P2 U (gV_X1_hold (gV_X1_walk L P U V (P 0 1)) (q_X1_walk L P U V (P 0 1))) ((P2 0 1) - 1)) (q_X1_walk L2 P2 U (gV_X1_hold (gV_X1_walk L P U V (P 0 1)) (q_X1_walk L P U V (P 0 1))) ((P2 0 1) - 1)) (q_X1_walk L P U V (P 0 1))) = 0
    · rewrite [if_pos h2]; simp only [if_pos h2] at hR
      try rewrite [fR_ok 1 hO.k]
      try rewrite [Option.bind_some]
      try rewrite [hO.r1]
      try simp only [Option.bind_some]
      rewrite [if_pos (show kd (pt (pt (pt (pt (pt X o O) r2 P2) r P) n U) m (gV_X1_walk L2 P2 U (gV_X1_hold (gV_X1_walk L P U V (P 0 1)) (q_X1_walk L P U V (P 0 1))) ((P2 0 1) - 1)), J) m = 1 from hM.k)]
      rewrite [s_X1_release hM]
      simp only [Option.bind_some, asV_n]
      first | rewrite [if_pos (show ((-1) : Int32) = ((-1)) by decide)] | rewrite [if_pos trivial] | simp only [if_true]
      exact hR
    · rewrite [if_neg h2]; simp only [if_neg h2] at hR
      try simp only [Option.bind_some]
      rewrite [if_pos (show kd (pt (pt (pt (pt (pt X o O) r2 P2) r P) n U) m (gV_X1_walk L2 P2 U (gV_X1_hold (gV_X1_walk L P U V (P 0 1)) (q_X1_walk L P U V (P 0 1))) ((P2 0 1) - 1)), J) o = 8 from hO.k)]
      rw [pt_comm (pt X o O) P2 P d_P2P, pt_comm X O P d_OP]
      rw [s_X8_gapIn hO hP2 hN hM d_OP2 d_OU d_OV d_P2U d_P2V d_UV]
      rw [pt_comm X P O (Or.symm d_OP), pt_comm (pt X o O) P P2 (Or.symm d_P2P)]
      simp only [Option.bind_some, asI_I]
      try rewrite [fR_ok 1 hO.k]
      try rewrite [Option.bind_some]
      try rewrite [hO.r1]
      try simp only [Option.bind_some]
      rewrite [if_pos (show kd (pt (pt (pt (pt (pt X o O) r2 P2) r P) n U) m (gV_X8_gapIn L2 O P2 U (gV_X1_walk L2 P2 U (gV_X1_hold (gV_X1_walk L P U V (P 0 1)) (q_X1_walk L P U V (P 0 1))) ((P2 0 1) - 1)) (q_X1_walk L2 P2 U (gV_X1_hold (gV_X1_walk L P U V (P 0 1)) (q_X1_walk L P U V (P 0 1))) ((P2 0 1) - 1))), J) m = 1 from hM.k)]
      rewrite [s_X1_release hM]
      simp only [Option.bind_some, asV_n]
      by_cases h3 : (q_X8_gapIn L2 O P2 U (gV_X1_walk L2 P2 U (gV_X1_hold (gV_X1_walk L P U V (P 0 1)) (q_X1_walk L P U V (P 0 1))) ((P2 0 1) - 1)) (q_X1_walk L2 P2 U (gV_X1_hold (gV_X1_walk L P U V (P 0 1)) (q_X1_walk L P U V (P 0 1))) ((P2 0 1) - 1))) = ((-1))
      · rewrite [if_pos h3]; simp only [if_pos h3] at hR
        exact hR
      · rewrite [if_neg h3]; simp only [if_neg h3] at hR
        try rewrite [fR_ok 1 hO.k]
        try rewrite [Option.bind_some]
        try rewrite [hO.r1]
        try simp only [Option.bind_some]
        rewrite [if_pos (show kd (pt (pt (pt (pt (pt X o O) r2 P2) r P) n U) m (gV_X1_release (gV_X8_gapIn L2 O P2 U (gV_X1_walk L2 P2 U (gV_X1_hold (gV_X1_walk L P U V (P 0 1)) (q_X1_walk L P U V (P 0 1))) ((P2 0 1) - 1)) (q_X1_walk L2 P2 U (gV_X1_hold (gV_X1_walk L P U V (P 0 1)) (q_X1_walk L P U V (P 0 1))) ((P2 0 1) - 1))) (q_X1_walk L P U V (P 0 1))), J) m = 1 from hM.k)]
        rewrite [s_X1_drop hM]
        simp only [Option.bind_some, asV_n]
        try rewrite [fR_ok 0 hO.k]
        try rewrite [Option.bind_some]
        try rewrite [hO.r0]
        try rewrite [fR_ok 1 hO.k]
        try rewrite [Option.bind_some]
        try rewrite [hO.r1]
        try simp only [Option.bind_some]
        rewrite [if_pos (show kd (pt (pt (pt (pt (pt X o O) r2 P2) r P) n U) m (gV_X1_drop (gV_X1_release (gV_X8_gapIn L2 O P2 U (gV_X1_walk L2 P2 U (gV_X1_hold (gV_X1_walk L P U V (P 0 1)) (q_X1_walk L P U V (P 0 1))) ((P2 0 1) - 1)) (q_X1_walk L2 P2 U (gV_X1_hold (gV_X1_walk L P U V (P 0 1)) (q_X1_walk L P U V (P 0 1))) ((P2 0 1) - 1))) (q_X1_walk L P U V (P 0 1))) (q_X8_gapIn L2 O P2 U (gV_X1_walk L2 P2 U (gV_X1_hold (gV_X1_walk L P U V (P 0 1)) (q_X1_walk L P U V (P 0 1))) ((P2 0 1) - 1)) (q_X1_walk L2 P2 U (gV_X1_hold (gV_X1_walk L P U V (P 0 1)) (q_X1_walk L P U V (P 0 1))) ((P2 0 1) - 1)))), J) m = 1 from hM.k)]
        rewrite [s_X1_nodeOf hM]
        simp only [Option.bind_some, asI_I]
        try rewrite [fR_ok 1 hO.k]
        try rewrite [Option.bind_some]
        try rewrite [hO.r1]
        try simp only [Option.bind_some]
        rewrite [if_pos (show kd (pt (pt (pt (pt (pt X o O) r2 P2) r P) n U) m (gV_X1_drop (gV_X1_release (gV_X8_gapIn L2 O P2 U (gV_X1_walk L2 P2 U (gV_X1_hold (gV_X1_walk L P U V (P 0 1)) (q_X1_walk L P U V (P 0 1))) ((P2 0 1) - 1)) (q_X1_walk L2 P2 U (gV_X1_hold (gV_X1_walk L P U V (P 0 1)) (q_X1_walk L P U V (P 0 1))) ((P2 0 1) - 1))) (q_X1_walk L P U V (P 0 1))) (q_X8_gapIn L2 O P2 U (gV_X1_walk L2 P2 U (gV_X1_hold (gV_X1_walk L P U V (P 0 1)) (q_X1_walk L P U V (P 0 1))) ((P2 0 1) - 1)) (q_X1_walk L2 P2 U (gV_X1_hold (gV_X1_walk L P U V (P 0 1)) (q_X1_walk L P U V (P 0 1))) ((P2 0 1) - 1)))), J) m = 1 from hM.k)]
        rewrite [s_X1_nodeOf hM]
        simp only [Option.bind_some, asI_I]
        try simp only [Option.bind_some]
        rewrite [if_pos (show kd (pt (pt (pt (pt (pt X o O) r2 P2) r P) n U) m (gV_X1_drop (gV_X1_release (gV_X8_gapIn L2 O P2 U (gV_X1_walk L2 P2 U (gV_X1_hold (gV_X1_walk L P U V (P 0 1)) (q_X1_walk L P U V (P 0 1))) ((P2 0 1) - 1)) (q_X1_walk L2 P2 U (gV_X1_hold (gV_X1_walk L P U V (P 0 1)) (q_X1_walk L P U V (P 0 1))) ((P2 0 1) - 1))) (q_X1_walk L P U V (P 0 1))) (q_X8_gapIn L2 O P2 U (gV_X1_walk L2 P2 U (gV_X1_hold (gV_X1_walk L P U V (P 0 1)) (q_X1_walk L P U V (P 0 1))) ((P2 0 1) - 1)) (q_X1_walk L2 P2 U (gV_X1_hold (gV_X1_walk L P U V (P 0 1)) (q_X1_walk L P U V (P 0 1))) ((P2 0 1) - 1)))), J) r2 = 4 from hP2.k)]
        rw [pt_comm (pt X o O) P2 P d_P2P, pt_comm (pt (pt X o O) r P) P2 U d_P2U, pt_comm (pt (pt (pt X o O) r P) n U) P2 (gV_X1_drop (gV_X1_release (gV_X8_gapIn L2 O P2 U (gV_X1_walk L2 P2 U (gV_X1_hold (gV_X1_walk L P U V (P 0 1)) (q_X1_walk L P U V (P 0 1))) ((P2 0 1) - 1)) (q_X1_walk L2 P2 U (gV_X1_hold (gV_X1_walk L P U V (P 0 1)) (q_X1_walk L P U V (P 0 1))) ((P2 0 1) - 1))) (q_X1_walk L P U V (P 0 1))) (q_X8_gapIn L2 O P2 U (gV_X1_walk L2 P2 U (gV_X1_hold (gV_X1_walk L P U V (P 0 1)) (q_X1_walk L P U V (P 0 1))) ((P2 0 1) - 1)) (q_X1_walk L2 P2 U (gV_X1_hold (gV_X1_walk L P U V (P 0 1)) (q_X1_walk L P U V (P 0 1))) ((P2 0 1) - 1)))) d_P2V]
        rw [s_X4_last hP2]
        rw [pt_comm (pt (pt (pt X o O) r P) n U) (gV_X1_drop (gV_X1_release (gV_X8_gapIn L2 O P2 U (gV_X1_walk L2 P2 U (gV_X1_hold (gV_X1_walk L P U V (P 0 1)) (q_X1_walk L P U V (P 0 1))) ((P2 0 1) - 1)) (q_X1_walk L2 P2 U (gV_X1_hold (gV_X1_walk L P U V (P 0 1)) (q_X1_walk L P U V (P 0 1))) ((P2 0 1) - 1))) (q_X1_walk L P U V (P 0 1))) (q_X8_gapIn L2 O P2 U (gV_X1_walk L2 P2 U (gV_X1_hold (gV_X1_walk L P U V (P 0 1)) (q_X1_walk L P U V (P 0 1))) ((P2 0 1) - 1)) (q_X1_walk L2 P2 U (gV_X1_hold (gV_X1_walk L P U V (P 0 1)) (q_X1_walk L P U V (P 0 1))) ((P2 0 1) - 1)))) P2 (Or.symm d_P2V), pt_comm (pt (pt X o O) r P) U P2 (Or.symm d_P2U), pt_comm (pt X o O) P P2 (Or.symm d_P2P)]
        simp only [Option.bind_some, asI_I]
        try simp only [Option.bind_some]
        rewrite [if_pos (show kd (pt (pt (pt (pt (pt X o O) r2 P2) r P) n U) m (gV_X1_drop (gV_X1_release (gV_X8_gapIn L2 O P2 U (gV_X1_walk L2 P2 U (gV_X1_hold (gV_X1_walk L P U V (P 0 1)) (q_X1_walk L P U V (P 0 1))) ((P2 0 1) - 1)) (q_X1_walk L2 P2 U (gV_X1_hold (gV_X1_walk L P U V (P 0 1)) (q_X1_walk L P U V (P 0 1))) ((P2 0 1) - 1))) (q_X1_walk L P U V (P 0 1))) (q_X8_gapIn L2 O P2 U (gV_X1_walk L2 P2 U (gV_X1_hold (gV_X1_walk L P U V (P 0 1)) (q_X1_walk L P U V (P 0 1))) ((P2 0 1) - 1)) (q_X1_walk L2 P2 U (gV_X1_hold (gV_X1_walk L P U V (P 0 1)) (q_X1_walk L P U V (P 0 1))) ((P2 0 1) - 1)))), J) n = 2 from hN.k)]
        rw [pt_comm (pt (pt (pt X o O) r2 P2) r P) U (gV_X1_drop (gV_X1_release (gV_X8_gapIn L2 O P2 U (gV_X1_walk L2 P2 U (gV_X1_hold (gV_X1_walk L P U V (P 0 1)) (q_X1_walk L P U V (P 0 1))) ((P2 0 1) - 1)) (q_X1_walk L2 P2 U (gV_X1_hold (gV_X1_walk L P U V (P 0 1)) (q_X1_walk L P U V (P 0 1))) ((P2 0 1) - 1))) (q_X1_walk L P U V (P 0 1))) (q_X8_gapIn L2 O P2 U (gV_X1_walk L2 P2 U (gV_X1_hold (gV_X1_walk L P U V (P 0 1)) (q_X1_walk L P U V (P 0 1))) ((P2 0 1) - 1)) (q_X1_walk L2 P2 U (gV_X1_hold (gV_X1_walk L P U V (P 0 1)) (q_X1_walk L P U V (P 0 1))) ((P2 0 1) - 1)))) d_UV]
        rw [s_X2_move hN]
        rw [pt_comm (pt (pt (pt X o O) r2 P2) r P) (gV_X1_drop (gV_X1_release (gV_X8_gapIn L2 O P2 U (gV_X1_walk L2 P2 U (gV_X1_hold (gV_X1_walk L P U V (P 0 1)) (q_X1_walk L P U V (P 0 1))) ((P2 0 1) - 1)) (q_X1_walk L2 P2 U (gV_X1_hold (gV_X1_walk L P U V (P 0 1)) (q_X1_walk L P U V (P 0 1))) ((P2 0 1) - 1))) (q_X1_walk L P U V (P 0 1))) (q_X8_gapIn L2 O P2 U (gV_X1_walk L2 P2 U (gV_X1_hold (gV_X1_walk L P U V (P 0 1)) (q_X1_walk L P U V (P 0 1))) ((P2 0 1) - 1)) (q_X1_walk L2 P2 U (gV_X1_hold (gV_X1_walk L P U V (P 0 1)) (q_X1_walk L P U V (P 0 1))) ((P2 0 1) - 1)))) (gU_X2_move U (q_X1_nodeOf (gV_X1_drop (gV_X1_release (gV_X8_gapIn L2 O P2 U (gV_X1_walk L2 P2 U (gV_X1_hold (gV_X1_walk L P U V (P 0 1)) (q_X1_walk L P U V (P 0 1))) ((P2 0 1) - 1)) (q_X1_walk L2 P2 U (gV_X1_hold (gV_X1_walk L P U V (P 0 1)) (q_X1_walk L P U V (P 0 1))) ((P2 0 1) - 1))) (q_X1_walk L P U V (P 0 1))) (q_X8_gapIn L2 O P2 U (gV_X1_walk L2 P2 U (gV_X1_hold (gV_X1_walk L P U V (P 0 1)) (q_X1_walk L P U V (P 0 1))) ((P2 0 1) - 1)) (q_X1_walk L2 P2 U (gV_X1_hold (gV_X1_walk L P U V (P 0 1)) (q_X1_walk L P U V (P 0 1))) ((P2 0 1) - 1)))) (q_X1_walk L P U V (P 0 1))) (q_X1_nodeOf (gV_X1_drop (gV_X1_release (gV_X8_gapIn L2 O P2 U (gV_X1_walk L2 P2 U (gV_X1_hold (gV_X1_walk L P U V (P 0 1)) (q_X1_walk L P U V (P 0 1))) ((P2 0 1) - 1)) (q_X1_walk L2 P2 U (gV_X1_hold (gV_X1_walk L P U V (P 0 1)) (q_X1_walk L P U V (P 0 1))) ((P2 0 1) - 1))) (q_X1_walk L P U V (P 0 1))) (q_X8_gapIn L2 O P2 U (gV_X1_walk L2 P2 U (gV_X1_hold (gV_X1_walk L P U V (P 0 1)) (q_X1_walk L P U V (P 0 1))) ((P2 0 1) - 1)) (q_X1_walk L2 P2 U (gV_X1_hold (gV_X1_walk L P U V (P 0 1)) (q_X1_walk L P U V (P 0 1))) ((P2 0 1) - 1)))) (q_X1_walk L2 P2 U (gV_X1_hold (gV_X1_walk L P U V (P 0 1)) (q_X1_walk L P U V (P 0 1))) ((P2 0 1) - 1))) (q_X4_last L2 P2)) (Or.symm d_UV)]
        simp only [Option.bind_some, asV_n]
        try rewrite [fR_ok 1 hO.k]
        try rewrite [Option.bind_some]
        try rewrite [hO.r1]
        try simp only [Option.bind_some]
        rewrite [if_pos (show kd (pt (pt (pt (pt (pt X o O) r2 P2) r P) n (gU_X2_move U (q_X1_nodeOf (gV_X1_drop (gV_X1_release (gV_X8_gapIn L2 O P2 U (gV_X1_walk L2 P2 U (gV_X1_hold (gV_X1_walk L P U V (P 0 1)) (q_X1_walk L P U V (P 0 1))) ((P2 0 1) - 1)) (q_X1_walk L2 P2 U (gV_X1_hold (gV_X1_walk L P U V (P 0 1)) (q_X1_walk L P U V (P 0 1))) ((P2 0 1) - 1))) (q_X1_walk L P U V (P 0 1))) (q_X8_gapIn L2 O P2 U (gV_X1_walk L2 P2 U (gV_X1_hold (gV_X1_walk L P U V (P 0 1)) (q_X1_walk L P U V (P 0 1))) ((P2 0 1) - 1)) (q_X1_walk L2 P2 U (gV_X1_hold (gV_X1_walk L P U V (P 0 1)) (q_X1_walk L P U V (P 0 1))) ((P2 0 1) - 1)))) (q_X1_walk L P U V (P 0 1))) (q_X1_nodeOf (gV_X1_drop (gV_X1_release (gV_X8_gapIn L2 O P2 U (gV_X1_walk L2 P2 U (gV_X1_hold (gV_X1_walk L P U V (P 0 1)) (q_X1_walk L P U V (P 0 1))) ((P2 0 1) - 1)) (q_X1_walk L2 P2 U (gV_X1_hold (gV_X1_walk L P U V (P 0 1)) (q_X1_walk L P U V (P 0 1))) ((P2 0 1) - 1))) (q_X1_walk L P U V (P 0 1))) (q_X8_gapIn L2 O P2 U (gV_X1_walk L2 P2 U (gV_X1_hold (gV_X1_walk L P U V (P 0 1)) (q_X1_walk L P U V (P 0 1))) ((P2 0 1) - 1)) (q_X1_walk L2 P2 U (gV_X1_hold (gV_X1_walk L P U V (P 0 1)) (q_X1_walk L P U V (P 0 1))) ((P2 0 1) - 1)))) (q_X1_walk L2 P2 U (gV_X1_hold (gV_X1_walk L P U V (P 0 1)) (q_X1_walk L P U V (P 0 1))) ((P2 0 1) - 1))) (q_X4_last L2 P2))) m (gV_X1_drop (gV_X1_release (gV_X8_gapIn L2 O P2 U (gV_X1_walk L2 P2 U (gV_X1_hold (gV_X1_walk L P U V (P 0 1)) (q_X1_walk L P U V (P 0 1))) ((P2 0 1) - 1)) (q_X1_walk L2 P2 U (gV_X1_hold (gV_X1_walk L P U V (P 0 1)) (q_X1_walk L P U V (P 0 1))) ((P2 0 1) - 1))) (q_X1_walk L P U V (P 0 1))) (q_X8_gapIn L2 O P2 U (gV_X1_walk L2 P2 U (gV_X1_hold (gV_X1_walk L P U V (P 0 1)) (q_X1_walk L P U V (P 0 1))) ((P2 0 1) - 1)) (q_X1_walk L2 P2 U (gV_X1_hold (gV_X1_walk L P U V (P 0 1)) (q_X1_walk L P U V (P 0 1))) ((P2 0 1) - 1)))), J) r2 = 4 from hP2.k)]
        rw [pt_comm (pt X o O) P2 P d_P2P, pt_comm (pt (pt X o O) r P) P2 (gU_X2_move U (q_X1_nodeOf (gV_X1_drop (gV_X1_release (gV_X8_gapIn L2 O P2 U (gV_X1_walk L2 P2 U (gV_X1_hold (gV_X1_walk L P U V (P 0 1)) (q_X1_walk L P U V (P 0 1))) ((P2 0 1) - 1)) (q_X1_walk L2 P2 U (gV_X1_hold (gV_X1_walk L P U V (P 0 1)) (q_X1_walk L P U V (P 0 1))) ((P2 0 1) - 1))) (q_X1_walk L P U V (P 0 1))) (q_X8_gapIn L2 O P2 U (gV_X1_walk L2 P2 U (gV_X1_hold (gV_X1_walk L P U V (P 0 1)) (q_X1_walk L P U V (P 0 1))) ((P2 0 1) - 1)) (q_X1_walk L2 P2 U (gV_X1_hold (gV_X1_walk L P U V (P 0 1)) (q_X1_walk L P U V (P 0 1))) ((P2 0 1) - 1)))) (q_X1_walk L P U V (P 0 1))) (q_X1_nodeOf (gV_X1_drop (gV_X1_release (gV_X8_gapIn L2 O P2 U (gV_X1_walk L2 P2 U (gV_X1_hold (gV_X1_walk L P U V (P 0 1)) (q_X1_walk L P U V (P 0 1))) ((P2 0 1) - 1)) (q_X1_walk L2 P2 U (gV_X1_hold (gV_X1_walk L P U V (P 0 1)) (q_X1_walk L P U V (P 0 1))) ((P2 0 1) - 1))) (q_X1_walk L P U V (P 0 1))) (q_X8_gapIn L2 O P2 U (gV_X1_walk L2 P2 U (gV_X1_hold (gV_X1_walk L P U V (P 0 1)) (q_X1_walk L P U V (P 0 1))) ((P2 0 1) - 1)) (q_X1_walk L2 P2 U (gV_X1_hold (gV_X1_walk L P U V (P 0 1)) (q_X1_walk L P U V (P 0 1))) ((P2 0 1) - 1)))) (q_X1_walk L2 P2 U (gV_X1_hold (gV_X1_walk L P U V (P 0 1)) (q_X1_walk L P U V (P 0 1))) ((P2 0 1) - 1))) (q_X4_last L2 P2)) d_P2U, pt_comm (pt (pt (pt X o O) r P) n (gU_X2_move U (q_X1_nodeOf (gV_X1_drop (gV_X1_release (gV_X8_gapIn L2 O P2 U (gV_X1_walk L2 P2 U (gV_X1_hold (gV_X1_walk L P U V (P 0 1)) (q_X1_walk L P U V (P 0 1))) ((P2 0 1) - 1)) (q_X1_walk L2 P2 U (gV_X1_hold (gV_X1_walk L P U V (P 0 1)) (q_X1_walk L P U V (P 0 1))) ((P2 0 1) - 1))) (q_X1_walk L P U V (P 0 1))) (q_X8_gapIn L2 O P2 U (gV_X1_walk L2 P2 U (gV_X1_hold (gV_X1_walk L P U V (P 0 1)) (q_X1_walk L P U V (P 0 1))) ((P2 0 1) - 1)) (q_X1_walk L2 P2 U (gV_X1_hold (gV_X1_walk L P U V (P 0 1)) (q_X1_walk L P U V (P 0 1))) ((P2 0 1) - 1)))) (q_X1_walk L P U V (P 0 1))) (q_X1_nodeOf (gV_X1_drop (gV_X1_release (gV_X8_gapIn L2 O P2 U (gV_X1_walk L2 P2 U (gV_X1_hold (gV_X1_walk L P U V (P 0 1)) (q_X1_walk L P U V (P 0 1))) ((P2 0 1) - 1)) (q_X1_walk L2 P2 U (gV_X1_hold (gV_X1_walk L P U V (P 0 1)) (q_X1_walk L P U V (P 0 1))) ((P2 0 1) - 1))) (q_X1_walk L P U V (P 0 1))) (q_X8_gapIn L2 O P2 U (gV_X1_walk L2 P2 U (gV_X1_hold (gV_X1_walk L P U V (P 0 1)) (q_X1_walk L P U V (P 0 1))) ((P2 0 1) - 1)) (q_X1_walk L2 P2 U (gV_X1_hold (gV_X1_walk L P U V (P 0 1)) (q_X1_walk L P U V (P 0 1))) ((P2 0 1) - 1)))) (q_X1_walk L2 P2 U (gV_X1_hold (gV_X1_walk L P U V (P 0 1)) (q_X1_walk L P U V (P 0 1))) ((P2 0 1) - 1))) (q_X4_last L2 P2))) P2 (gV_X1_drop (gV_X1_release (gV_X8_gapIn L2 O P2 U (gV_X1_walk L2 P2 U (gV_X1_hold (gV_X1_walk L P U V (P 0 1)) (q_X1_walk L P U V (P 0 1))) ((P2 0 1) - 1)) (q_X1_walk L2 P2 U (gV_X1_hold (gV_X1_walk L P U V (P 0 1)) (q_X1_walk L P U V (P 0 1))) ((P2 0 1) - 1))) (q_X1_walk L P U V (P 0 1))) (q_X8_gapIn L2 O P2 U (gV_X1_walk L2 P2 U (gV_X1_hold (gV_X1_walk L P U V (P 0 1)) (q_X1_walk L P U V (P 0 1))) ((P2 0 1) - 1)) (q_X1_walk L2 P2 U (gV_X1_hold (gV_X1_walk L P U V (P 0 1)) (q_X1_walk L P U V (P 0 1))) ((P2 0 1) - 1)))) d_P2V]
        rw [s_X4_last hP2]
        rw [pt_comm (pt (pt (pt X o O) r P) n (gU_X2_move U (q_X1_nodeOf (gV_X1_drop (gV_X1_release (gV_X8_gapIn L2 O P2 U (gV_X1_walk L2 P2 U (gV_X1_hold (gV_X1_walk L P U V (P 0 1)) (q_X1_walk L P U V (P 0 1))) ((P2 0 1) - 1)) (q_X1_walk L2 P2 U (gV_X1_hold (gV_X1_walk L P U V (P 0 1)) (q_X1_walk L P U V (P 0 1))) ((P2 0 1) - 1))) (q_X1_walk L P U V (P 0 1))) (q_X8_gapIn L2 O P2 U (gV_X1_walk L2 P2 U (gV_X1_hold (gV_X1_walk L P U V (P 0 1)) (q_X1_walk L P U V (P 0 1))) ((P2 0 1) - 1)) (q_X1_walk L2 P2 U (gV_X1_hold (gV_X1_walk L P U V (P 0 1)) (q_X1_walk L P U V (P 0 1))) ((P2 0 1) - 1)))) (q_X1_walk L P U V (P 0 1))) (q_X1_nodeOf (gV_X1_drop (gV_X1_release (gV_X8_gapIn L2 O P2 U (gV_X1_walk L2 P2 U (gV_X1_hold (gV_X1_walk L P U V (P 0 1)) (q_X1_walk L P U V (P 0 1))) ((P2 0 1) - 1)) (q_X1_walk L2 P2 U (gV_X1_hold (gV_X1_walk L P U V (P 0 1)) (q_X1_walk L P U V (P 0 1))) ((P2 0 1) - 1))) (q_X1_walk L P U V (P 0 1))) (q_X8_gapIn L2 O P2 U (gV_X1_walk L2 P2 U (gV_X1_hold (gV_X1_walk L P U V (P 0 1)) (q_X1_walk L P U V (P 0 1))) ((P2 0 1) - 1)) (q_X1_walk L2 P2 U (gV_X1_hold (gV_X1_walk L P U V (P 0 1)) (q_X1_walk L P U V (P 0 1))) ((P2 0 1) - 1)))) (q_X1_walk L2 P2 U (gV_X1_hold (gV_X1_walk L P U V (P 0 1)) (q_X1_walk L P U V (P 0 1))) ((P2 0 1) - 1))) (q_X4_last L2 P2))) (gV_X1_drop (gV_X1_release (gV_X8_gapIn L2 O P2 U (gV_X1_walk L2 P2 U (gV_X1_hold (gV_X1_walk L P U V (P 0 1)) (q_X1_walk L P U V (P 0 1))) ((P2 0 1) - 1)) (q_X1_walk L2 P2 U (gV_X1_hold (gV_X1_walk L P U V (P 0 1)) (q_X1_walk L P U V (P 0 1))) ((P2 0 1) - 1))) (q_X1_walk L P U V (P 0 1))) (q_X8_gapIn L2 O P2 U (gV_X1_walk L2 P2 U (gV_X1_hold (gV_X1_walk L P U V (P 0 1)) (q_X1_walk L P U V (P 0 1))) ((P2 0 1) - 1)) (q_X1_walk L2 P2 U (gV_X1_hold (gV_X1_walk L P U V (P 0 1)) (q_X1_walk L P U V (P 0 1))) ((P2 0 1) - 1)))) P2 (Or.symm d_P2V), pt_comm (pt (pt X o O) r P) (gU_X2_move U (q_X1_nodeOf (gV_X1_drop (gV_X1_release (gV_X8_gapIn L2 O P2 U (gV_X1_walk L2 P2 U (gV_X1_hold (gV_X1_walk L P U V (P 0 1)) (q_X1_walk L P U V (P 0 1))) ((P2 0 1) - 1)) (q_X1_walk L2 P2 U (gV_X1_hold (gV_X1_walk L P U V (P 0 1)) (q_X1_walk L P U V (P 0 1))) ((P2 0 1) - 1))) (q_X1_walk L P U V (P 0 1))) (q_X8_gapIn L2 O P2 U (gV_X1_walk L2 P2 U (gV_X1_hold (gV_X1_walk L P U V (P 0 1)) (q_X1_walk L P U V (P 0 1))) ((P2 0 1) - 1)) (q_X1_walk L2 P2 U (gV_X1_hold (gV_X1_walk L P U V (P 0 1)) (q_X1_walk L P U V (P 0 1))) ((P2 0 1) - 1)))) (q_X1_walk L P U V (P 0 1))) (q_X1_nodeOf (gV_X1_drop (gV_X1_release (gV_X8_gapIn L2 O P2 U (gV_X1_walk L2 P2 U (gV_X1_hold (gV_X1_walk L P U V (P 0 1)) (q_X1_walk L P U V (P 0 1))) ((P2 0 1) - 1)) (q_X1_walk L2 P2 U (gV_X1_hold (gV_X1_walk L P U V (P 0 1)) (q_X1_walk L P U V (P 0 1))) ((P2 0 1) - 1))) (q_X1_walk L P U V (P 0 1))) (q_X8_gapIn L2 O P2 U (gV_X1_walk L2 P2 U (gV_X1_hold (gV_X1_walk L P U V (P 0 1)) (q_X1_walk L P U V (P 0 1))) ((P2 0 1) - 1)) (q_X1_walk L2 P2 U (gV_X1_hold (gV_X1_walk L P U V (P 0 1)) (q_X1_walk L P U V (P 0 1))) ((P2 0 1) - 1)))) (q_X1_walk L2 P2 U (gV_X1_hold (gV_X1_walk L P U V (P 0 1)) (q_X1_walk L P U V (P 0 1))) ((P2 0 1) - 1))) (q_X4_last L2 P2)) P2 (Or.symm d_P2U), pt_comm (pt X o O) P P2 (Or.symm d_P2P)]
        simp only [Option.bind_some, asI_I]
        try simp only [Option.bind_some]
        rewrite [if_pos (show kd (pt (pt (pt (pt (pt X o O) r2 P2) r P) n (gU_X2_move U (q_X1_nodeOf (gV_X1_drop (gV_X1_release (gV_X8_gapIn L2 O P2 U (gV_X1_walk L2 P2 U (gV_X1_hold (gV_X1_walk L P U V (P 0 1)) (q_X1_walk L P U V (P 0 1))) ((P2 0 1) - 1)) (q_X1_walk L2 P2 U (gV_X1_hold (gV_X1_walk L P U V (P 0 1)) (q_X1_walk L P U V (P 0 1))) ((P2 0 1) - 1))) (q_X1_walk L P U V (P 0 1))) (q_X8_gapIn L2 O P2 U (gV_X1_walk L2 P2 U (gV_X1_hold (gV_X1_walk L P U V (P 0 1)) (q_X1_walk L P U V (P 0 1))) ((P2 0 1) - 1)) (q_X1_walk L2 P2 U (gV_X1_hold (gV_X1_walk L P U V (P 0 1)) (q_X1_walk L P U V (P 0 1))) ((P2 0 1) - 1)))) (q_X1_walk L P U V (P 0 1))) (q_X1_nodeOf (gV_X1_drop (gV_X1_release (gV_X8_gapIn L2 O P2 U (gV_X1_walk L2 P2 U (gV_X1_hold (gV_X1_walk L P U V (P 0 1)) (q_X1_walk L P U V (P 0 1))) ((P2 0 1) - 1)) (q_X1_walk L2 P2 U (gV_X1_hold (gV_X1_walk L P U V (P 0 1)) (q_X1_walk L P U V (P 0 1))) ((P2 0 1) - 1))) (q_X1_walk L P U V (P 0 1))) (q_X8_gapIn L2 O P2 U (gV_X1_walk L2 P2 U (gV_X1_hold (gV_X1_walk L P U V (P 0 1)) (q_X1_walk L P U V (P 0 1))) ((P2 0 1) - 1)) (q_X1_walk L2 P2 U (gV_X1_hold (gV_X1_walk L P U V (P 0 1)) (q_X1_walk L P U V (P 0 1))) ((P2 0 1) - 1)))) (q_X1_walk L2 P2 U (gV_X1_hold (gV_X1_walk L P U V (P 0 1)) (q_X1_walk L P U V (P 0 1))) ((P2 0 1) - 1))) (q_X4_last L2 P2))) m (gV_X1_drop (gV_X1_release (gV_X8_gapIn L2 O P2 U (gV_X1_walk L2 P2 U (gV_X1_hold (gV_X1_walk L P U V (P 0 1)) (q_X1_walk L P U V (P 0 1))) ((P2 0 1) - 1)) (q_X1_walk L2 P2 U (gV_X1_hold (gV_X1_walk L P U V (P 0 1)) (q_X1_walk L P U V (P 0 1))) ((P2 0 1) - 1))) (q_X1_walk L P U V (P 0 1))) (q_X8_gapIn L2 O P2 U (gV_X1_walk L2 P2 U (gV_X1_hold (gV_X1_walk L P U V (P 0 1)) (q_X1_walk L P U V (P 0 1))) ((P2 0 1) - 1)) (q_X1_walk L2 P2 U (gV_X1_hold (gV_X1_walk L P U V (P 0 1)) (q_X1_walk L P U V (P 0 1))) ((P2 0 1) - 1)))), J) m = 1 from hM.k)]
        rewrite [s_X1_move hM]
        simp only [Option.bind_some, asV_n]
        exact hR
def q_X8_mountAt (L : Nat) (O : OneV) (P : RouV) (U : NodV) (V : MemV) (x2 : Int32) : Int32 := (if (q_X1_canChange (gV_X1_walk L P U V (P 0 1)) (q_X1_walk L P U V (P 0 1))) = 0 then (-1) else (if (q_X1_isFolder U (gV_X1_walk L P U V (P 0 1)) (q_X1_walk L P U V (P 0 1))) = 0 then (-1) else q_X1_cover U (gV_X1_walk L P U V (P 0 1)) (q_X1_walk L P U V (P 0 1)) x2))
def gV_X8_mountAt (L : Nat) (O : OneV) (P : RouV) (U : NodV) (V : MemV) (x2 : Int32) : MemV := (if (q_X1_canChange (gV_X1_walk L P U V (P 0 1)) (q_X1_walk L P U V (P 0 1))) = 0 then gV_X1_walk L P U V (P 0 1) else (if (q_X1_isFolder U (gV_X1_walk L P U V (P 0 1)) (q_X1_walk L P U V (P 0 1))) = 0 then gV_X1_walk L P U V (P 0 1) else gV_X1_cover U (gV_X1_walk L P U V (P 0 1)) (q_X1_walk L P U V (P 0 1)) x2))
theorem s_X8_mountAt {J : MJ} {o n m g z r L : Nat} (hO : WorL J o n m g z) (hP : RouL J r L) (hN : NodL J n) (hM : MemL J m n) (d_OP : o + 1 ≤ r ∨ r + 2 ≤ o) (d_OU : o + 1 ≤ n ∨ n + 6 ≤ o) (d_OV : o + 1 ≤ m ∨ m + 12 ≤ o) (d_PU : r + 2 ≤ n ∨ n + 6 ≤ r) (d_PV : r + 2 ≤ m ∨ m + 12 ≤ r) (d_UV : n + 6 ≤ m ∨ m + 12 ≤ n) (X : MI) (O : OneV) (P : RouV) (U : NodV) (V : MemV) (x2 : Int32) : M_X8_mountAt [mR (some o), mR (some r), mI x2] (pt (pt (pt (pt X o O) r P) n U) m V, J) = some (some (mI (q_X8_mountAt L O P U V x2)), (pt (pt (pt (pt X o O) r P) n U) m (gV_X8_mountAt L O P U V x2), J)) := by
  generalize hR : some (some (mI (q_X8_mountAt L O P U V x2)), (pt (pt (pt (pt X o O) r P) n U) m (gV_X8_mountAt L O P U V x2), J)) = R
  rw [E_X8_mountAt]
  unfold q_X8_mountAt gV_X8_mountAt at hR
  try rewrite [fR_ok 1 hO.k]
  try rewrite [Option.bind_some]
  try rewrite [hO.r1]
  try rewrite [fI_ok 1 hP.k]
  try rewrite [Option.bind_some]
  try rewrite [pt_out (x := r) (a := m) (by have := d_PV; omega)]
  try rewrite [pt_out (x := r) (a := n) (by have := d_PU; omega)]
  try rewrite [p2_0]
  try simp only [Option.bind_some]
  rewrite [if_pos (show kd (pt (pt (pt (pt X o O) r P) n U) m V, J) m = 1 from hM.k)]
  rewrite [s_X1_walk hP hN hM d_PU d_PV d_UV]
  simp only [Option.bind_some, asI_I]
  try rewrite [fR_ok 1 hO.k]
  try rewrite [Option.bind_some]
  try rewrite [hO.r1]
  try simp only [Option.bind_some]
  rewrite [if_pos (show kd (pt (pt (pt (pt X o O) r P) n U) m (gV_X1_walk L P U V (P 0 1)), J) m = 1 from hM.k)]
  rewrite [s_X1_canChange hM]
  simp only [Option.bind_some, asI_I]
  by_cases h1 : (q_X1_canChange (gV_X1_walk L P U V (P 0 1)) (q_X1_walk L P U V (P 0 1))) = 0
  · rewrite [if_pos h1]; simp only [if_pos h1] at hR
    first | rewrite [if_pos (show (0 : Int32) = 0 by decide)] | rewrite [if_pos trivial] | simp only [if_true]
    exact hR
  · rewrite [if_neg h1]; simp only [if_neg h1] at hR
    try rewrite [fR_ok 1 hO.k]
    try rewrite [Option.bind_some]
    try rewrite [hO.r1]
    try simp only [Option.bind_some]
    rewrite [if_pos (show kd (pt (pt (pt (pt X o O) r P) n U) m (gV_X1_walk L P U V (P 0 1)), J) m = 1 from hM.k)]
    rewrite [s_X1_isFolder hN hM d_UV]
    simp only [Option.bind_some, asI_I]
    by_cases h2 : (q_X1_isFolder U (gV_X1_walk L P U V (P 0 1)) (q_X1_walk L P U V (P 0 1))) = 0
    · rewrite [if_pos h2]; simp only [if_pos h2] at hR
      first | rewrite [if_pos (show (0 : Int32) = 0 by decide)] | rewrite [if_pos trivial] | simp only [if_true]
      exact hR
    · rewrite [if_neg h2]; simp only [if_neg h2] at hR
      first | rewrite [if_neg (show ¬ ((1 : Int32) = 0) by decide)] | rewrite [if_neg not_false] | simp only [if_false]
      try rewrite [fR_ok 1 hO.k]
      try rewrite [Option.bind_some]
      try rewrite [hO.r1]
      try simp only [Option.bind_some]
      rewrite [if_pos (show kd (pt (pt (pt (pt X o O) r P) n U) m (gV_X1_walk L P U V (P 0 1)), J) m = 1 from hM.k)]
      rewrite [s_X1_cover hN hM d_UV]
      simp only [Option.bind_some, asI_I]
      exact hR
def q_X8_isReachable (O : OneV) (U : NodV) (V : MemV) (x1 : Int32) : Int32 := (if (q_X2_exists U x1) = 0 then 0 else (if (q_X1_isMounted V (q_X2_volumeOf U x1)) = 0 then 0 else 1))
theorem s_X8_isReachable {J : MJ} {o n m g z : Nat} (hO : WorL J o n m g z) (hN : NodL J n) (hM : MemL J m n) (d_OU : o + 1 ≤ n ∨ n + 6 ≤ o) (d_OV : o + 1 ≤ m ∨ m + 12 ≤ o) (d_UV : n + 6 ≤ m ∨ m + 12 ≤ n) (X : MI) (O : OneV) (U : NodV) (V : MemV) (x1 : Int32) : M_X8_isReachable [mR (some o), mI x1] (pt (pt (pt X o O) n U) m V, J) = some (some (mI (q_X8_isReachable O U V x1)), (pt (pt (pt X o O) n U) m V, J)) := by
  generalize hR : some (some (mI (q_X8_isReachable O U V x1)), (pt (pt (pt X o O) n U) m V, J)) = R
  rw [E_X8_isReachable]
  unfold q_X8_isReachable at hR
  try rewrite [fR_ok 0 hO.k]
  try rewrite [Option.bind_some]
  try rewrite [hO.r0]
  try simp only [Option.bind_some]
  rewrite [if_pos (show kd (pt (pt (pt X o O) n U) m V, J) n = 2 from hN.k)]
  rw [pt_comm (pt X o O) U V d_UV]
  rw [s_X2_exists hN]
  rw [pt_comm (pt X o O) V U (Or.symm d_UV)]
  simp only [Option.bind_some, asI_I]
  by_cases h1 : (q_X2_exists U x1) = 0
  · rewrite [if_pos h1]; simp only [if_pos h1] at hR
    first | exact hR | (simp only [if_pos (show (0 : Int32) = 0 ∨ (0 : Int32) = 1 by decide), if_pos (show (1 : Int32) = 0 ∨ (1 : Int32) = 1 by decide)]; exact hR) | (simp; exact hR)
  · rewrite [if_neg h1]; simp only [if_neg h1] at hR
    try rewrite [fR_ok 1 hO.k]
    try rewrite [Option.bind_some]
    try rewrite [hO.r1]
    try rewrite [fR_ok 0 hO.k]
    try rewrite [Option.bind_some]
    try rewrite [hO.r0]
    try simp only [Option.bind_some]
    rewrite [if_pos (show kd (pt (pt (pt X o O) n U) m V, J) n = 2 from hN.k)]
    rw [pt_comm (pt X o O) U V d_UV]
    rw [s_X2_volumeOf hN]
    rw [pt_comm (pt X o O) V U (Or.symm d_UV)]
    simp only [Option.bind_some, asI_I]
    try simp only [Option.bind_some]
    rewrite [if_pos (show kd (pt (pt (pt X o O) n U) m V, J) m = 1 from hM.k)]
    rewrite [s_X1_isMounted hM]
    simp only [Option.bind_some, asI_I]
    by_cases h2 : (q_X1_isMounted V (q_X2_volumeOf U x1)) = 0
    · rewrite [if_pos h2]; simp only [if_pos h2] at hR
      first | exact hR | (simp only [if_pos (show (0 : Int32) = 0 ∨ (0 : Int32) = 1 by decide), if_pos (show (1 : Int32) = 0 ∨ (1 : Int32) = 1 by decide)]; exact hR) | (simp; exact hR)
    · rewrite [if_neg h2]; simp only [if_neg h2] at hR
      first | exact hR | (simp only [if_pos (show (0 : Int32) = 0 ∨ (0 : Int32) = 1 by decide), if_pos (show (1 : Int32) = 0 ∨ (1 : Int32) = 1 by decide)]; exact hR) | (simp; exact hR)
theorem b_X8_isReachable_0 {O : OneV} {U : NodV} {V : MemV} {x1 : Int32} (h : ¬ q_X8_isReachable O U V x1 = 0) : inb x1 60 := by
  unfold q_X8_isReachable at h
  by_cases k1 : (q_X2_exists U x1) = 0
  · simp only [if_pos k1] at h
    first | exact absurd rfl h | exact absurd trivial h
  · simp only [if_neg k1] at h
    by_cases k2 : (q_X1_isMounted V (q_X2_volumeOf U x1)) = 0
    · simp only [if_pos k2] at h
      first | exact absurd rfl h | exact absurd trivial h
    · simp only [if_neg k2] at h
      exact (b_X2_exists_0 k1)
theorem P_X8_mountedNodes {J : MJ} {o n m g z : Nat} (hO : WorL J o n m g z) (hN : NodL J n) (hM : MemL J m n) (d_OU : o + 1 ≤ n ∨ n + 6 ≤ o) (d_OV : o + 1 ≤ m ∨ m + 12 ≤ o) (d_UV : n + 6 ≤ m ∨ m + 12 ≤ n) (X : MI) (O : OneV) (U : NodV) (V : MemV) : M_X8_mountedNodes [mR (some o)] (pt (pt (pt X o O) n U) m V, J) = Ev T_X8_mountedNodes 4 [some (mR (some o)), some (mI 0), some (mI 0)] [] (pt (pt (pt X o O) n U) m V, J) := by
  generalize hR : Ev T_X8_mountedNodes 4 [some (mR (some o)), some (mI 0), some (mI 0)] [] (pt (pt (pt X o O) n U) m V, J) = R
  rw [E_X8_mountedNodes]
  exact hR
theorem P_X8_mountedNodes_4 {J : MJ} {o n m g z : Nat} (hO : WorL J o n m g z) (hN : NodL J n) (hM : MemL J m n) (d_OU : o + 1 ≤ n ∨ n + 6 ≤ o) (d_OV : o + 1 ≤ m ∨ m + 12 ≤ o) (d_UV : n + 6 ≤ m ∨ m + 12 ≤ n) (X : MI) (O : OneV) (U : NodV) (V : MemV) (x1 : Int32) (x2 : Int32) : Ev T_X8_mountedNodes 4 [some (mR (some o)), some (mI x1), some (mI x2)] [] (pt (pt (pt X o O) n U) m V, J) = (if (60 : Int32) ≤ x2 then some (some (mI x1), (pt (pt (pt X o O) n U) m V, J)) else (if (q_X8_isReachable O U V x2) = 0 then Ev T_X8_mountedNodes 4 [some (mR (some o)), some (mI (x1 + 0)), some (mI (x2 + 1))] [] (pt (pt (pt X o O) n U) m V, J) else Ev T_X8_mountedNodes 4 [some (mR (some o)), some (mI (x1 + 1)), some (mI (x2 + 1))] [] (pt (pt (pt X o O) n U) m V, J))) := by
  generalize hR : (if (60 : Int32) ≤ x2 then some (some (mI x1), (pt (pt (pt X o O) n U) m V, J)) else (if (q_X8_isReachable O U V x2) = 0 then Ev T_X8_mountedNodes 4 [some (mR (some o)), some (mI (x1 + 0)), some (mI (x2 + 1))] [] (pt (pt (pt X o O) n U) m V, J) else Ev T_X8_mountedNodes 4 [some (mR (some o)), some (mI (x1 + 1)), some (mI (x2 + 1))] [] (pt (pt (pt X o O) n U) m V, J))) = R
  rw [E_X8_mountedNodes_4]
  by_cases h1 : (60 : Int32) ≤ x2
  · rewrite [if_pos h1]; simp only [if_pos h1] at hR
    exact hR
  · rewrite [if_neg h1]; simp only [if_neg h1] at hR
    try simp only [Option.bind_some]
    rewrite [if_pos (show kd (pt (pt (pt X o O) n U) m V, J) o = 8 from hO.k)]
    rewrite [s_X8_isReachable hO hN hM d_OU d_OV d_UV]
    simp only [Option.bind_some, asI_I]
    by_cases h2 : (q_X8_isReachable O U V x2) = 0
    · rewrite [if_pos h2]; simp only [if_pos h2] at hR
      exact hR
    · rewrite [if_neg h2]; simp only [if_neg h2] at hR
      exact hR
def c_X8_mountedNodes (O : OneV) (U : NodV) (V : MemV)  : Nat := cnt (fun k => (if (q_X8_isReachable O U V (nI k)) = 0 then false else true)) 0 60
def ql_X8_mountedNodes (O : OneV) (U : NodV) (V : MemV)  : Int32 := nI (c_X8_mountedNodes O U V)
theorem l_X8_mountedNodes {J : MJ} {o n m g z : Nat} (hO : WorL J o n m g z) (hN : NodL J n) (hM : MemL J m n) (d_OU : o + 1 ≤ n ∨ n + 6 ≤ o) (d_OV : o + 1 ≤ m ∨ m + 12 ≤ o) (d_UV : n + 6 ≤ m ∨ m + 12 ≤ n) (X : MI) (O : OneV) (U : NodV) (V : MemV)  : Ev T_X8_mountedNodes 4 [some (mR (some o)), some (mI 0), some (mI 0)] [] (pt (pt (pt X o O) n U) m V, J) = some (some (mI (ql_X8_mountedNodes O U V)), (pt (pt (pt X o O) n U) m V, J)) := by
  have step := loop_cnt (fun k c => Ev T_X8_mountedNodes 4 [some (mR (some o)), some (mI (nI c)), some (mI (nI k))] [] (pt (pt (pt X o O) n U) m V, J)) (fun k => (if (q_X8_isReachable O U V (nI k)) = 0 then false else true)) 60 (fun k c hk => by
    try dsimp only
    rw [P_X8_mountedNodes_4 hO hN hM d_OU d_OV d_UV _ _ _ _ _ _, if_neg (show ¬ (60 : Int32) ≤ nI k from nI_ge hk (by decide))]
    try rw [ix_nI (by omega)]
    rw [nI_1 k]
    by_cases k1 : (q_X8_isReachable O U V (nI k)) = 0
    ·
      simp [k1, nI_1]
    ·
      simp [k1, nI_1]) 60 0 0 (by omega)
  have h0 : (nI 0) = 0 := rfl
  try dsimp only at step
  rw [h0] at step
  rw [step, P_X8_mountedNodes_4 hO hN hM d_OU d_OV d_UV _ _ _ _ _ _, if_pos (show (60 : Int32) ≤ nI 60 from Int32.le_refl _), Nat.zero_add]
  rfl
def q_X8_mountedNodes (O : OneV) (U : NodV) (V : MemV)  : Int32 := ql_X8_mountedNodes O U V
theorem s_X8_mountedNodes {J : MJ} {o n m g z : Nat} (hO : WorL J o n m g z) (hN : NodL J n) (hM : MemL J m n) (d_OU : o + 1 ≤ n ∨ n + 6 ≤ o) (d_OV : o + 1 ≤ m ∨ m + 12 ≤ o) (d_UV : n + 6 ≤ m ∨ m + 12 ≤ n) (X : MI) (O : OneV) (U : NodV) (V : MemV)  : M_X8_mountedNodes [mR (some o)] (pt (pt (pt X o O) n U) m V, J) = some (some (mI (q_X8_mountedNodes O U V)), (pt (pt (pt X o O) n U) m V, J)) := by
  rw [P_X8_mountedNodes hO hN hM d_OU d_OV d_UV]
  unfold q_X8_mountedNodes
  exact l_X8_mountedNodes hO hN hM d_OU d_OV d_UV _ _ _ _
theorem P_X8_mountedNode {J : MJ} {o n m g z : Nat} (hO : WorL J o n m g z) (hN : NodL J n) (hM : MemL J m n) (d_OU : o + 1 ≤ n ∨ n + 6 ≤ o) (d_OV : o + 1 ≤ m ∨ m + 12 ≤ o) (d_UV : n + 6 ≤ m ∨ m + 12 ≤ n) (X : MI) (O : OneV) (U : NodV) (V : MemV) (x1 : Int32) : M_X8_mountedNode [mR (some o), mI x1] (pt (pt (pt X o O) n U) m V, J) = Ev T_X8_mountedNode 4 [some (mR (some o)), none, some (mI x1), some (mI 0)] [] (pt (pt (pt X o O) n U) m V, J) := by
  generalize hR : Ev T_X8_mountedNode 4 [some (mR (some o)), none, some (mI x1), some (mI 0)] [] (pt (pt (pt X o O) n U) m V, J) = R
  rw [E_X8_mountedNode]
  exact hR
theorem P_X8_mountedNode_4 {J : MJ} {o n m g z : Nat} (hO : WorL J o n m g z) (hN : NodL J n) (hM : MemL J m n) (d_OU : o + 1 ≤ n ∨ n + 6 ≤ o) (d_OV : o + 1 ≤ m ∨ m + 12 ≤ o) (d_UV : n + 6 ≤ m ∨ m + 12 ≤ n) (X : MI) (O : OneV) (U : NodV) (V : MemV) (x2 : Int32) (x3 : Int32) : Ev T_X8_mountedNode 4 [some (mR (some o)), none, some (mI x2), some (mI x3)] [] (pt (pt (pt X o O) n U) m V, J) = (if (60 : Int32) ≤ x3 then some (some (mI ((-1))), (pt (pt (pt X o O) n U) m V, J)) else (if (q_X8_isReachable O U V x3) = 0 then Ev T_X8_mountedNode 4 [some (mR (some o)), none, some (mI x2), some (mI (x3 + 1))] [] (pt (pt (pt X o O) n U) m V, J) else (if x2 = 0 then some (some (mI x3), (pt (pt (pt X o O) n U) m V, J)) else Ev T_X8_mountedNode 4 [some (mR (some o)), none, some (mI (x2 + (-1))), some (mI (x3 + 1))] [] (pt (pt (pt X o O) n U) m V, J)))) := by
  generalize hR : (if (60 : Int32) ≤ x3 then some (some (mI ((-1))), (pt (pt (pt X o O) n U) m V, J)) else (if (q_X8_isReachable O U V x3) = 0 then Ev T_X8_mountedNode 4 [some (mR (some o)), none, some (mI x2), some (mI (x3 + 1))] [] (pt (pt (pt X o O) n U) m V, J) else (if x2 = 0 then some (some (mI x3), (pt (pt (pt X o O) n U) m V, J)) else Ev T_X8_mountedNode 4 [some (mR (some o)), none, some (mI (x2 + (-1))), some (mI (x3 + 1))] [] (pt (pt (pt X o O) n U) m V, J)))) = R
  rw [E_X8_mountedNode_4]
  by_cases h1 : (60 : Int32) ≤ x3
  · rewrite [if_pos h1]; simp only [if_pos h1] at hR
    exact hR
  · rewrite [if_neg h1]; simp only [if_neg h1] at hR
    try simp only [Option.bind_some]
    rewrite [if_pos (show kd (pt (pt (pt X o O) n U) m V, J) o = 8 from hO.k)]
    rewrite [s_X8_isReachable hO hN hM d_OU d_OV d_UV]
    simp only [Option.bind_some, asI_I]
    by_cases h2 : (q_X8_isReachable O U V x3) = 0
    · rewrite [if_pos h2]; simp only [if_pos h2] at hR
      exact hR
    · rewrite [if_neg h2]; simp only [if_neg h2] at hR
      by_cases h3 : x2 = 0
      · rewrite [if_pos h3]; simp only [if_pos h3] at hR
        exact hR
      · rewrite [if_neg h3]; simp only [if_neg h3] at hR
        exact hR
def lp_X8_mountedNode_4 (O : OneV) (U : NodV) (V : MemV) : Nat → Nat → Int32 → Int32
  | 0, k, x2 => ((-1))
  | nn + 1, k, x2 => (if (q_X8_isReachable O U V (nI k)) = 0 then lp_X8_mountedNode_4 O U V nn (k + 1) x2 else (if x2 = 0 then (nI k) else lp_X8_mountedNode_4 O U V nn (k + 1) (x2 + (-1))))
theorem lr_X8_mountedNode_4 {J : MJ} {o n m g z : Nat} (hO : WorL J o n m g z) (hN : NodL J n) (hM : MemL J m n) (d_OU : o + 1 ≤ n ∨ n + 6 ≤ o) (d_OV : o + 1 ≤ m ∨ m + 12 ≤ o) (d_UV : n + 6 ≤ m ∨ m + 12 ≤ n) (X : MI) (O : OneV) (U : NodV) (V : MemV) : ∀ (nn k : Nat) (x2 : Int32), k + nn = 60 → Ev T_X8_mountedNode 4 [some (mR (some o)), none, some (mI x2), some (mI (nI k))] [] (pt (pt (pt X o O) n U) m V, J) = some (some (mI ((lp_X8_mountedNode_4 O U V nn k x2))), (pt (pt (pt X o O) n U) m V, J)) := by
  intro nn
  induction nn with
  | zero =>
    intro k x2 hk
    have hk : k = 60 := by omega
    subst hk
    generalize hR : some (some (mI ((lp_X8_mountedNode_4 O U V 0 60 x2))), (pt (pt (pt X o O) n U) m V, J)) = R
    rw [lp_X8_mountedNode_4] at hR
    rw [P_X8_mountedNode_4 hO hN hM d_OU d_OV d_UV _ _ _ _ _ _]
    rewrite [if_pos (show (60 : Int32) ≤ nI 60 from Int32.le_refl _)]
    exact hR
  | succ nn ih =>
    intro k x2 hk
    generalize hR : some (some (mI ((lp_X8_mountedNode_4 O U V (nn + 1) k x2))), (pt (pt (pt X o O) n U) m V, J)) = R
    rw [lp_X8_mountedNode_4] at hR
    rw [P_X8_mountedNode_4 hO hN hM d_OU d_OV d_UV _ _ _ _ _ _]
    try rw [ix_nI (by omega)]
    rw [nI_1 k]
    rewrite [if_neg (show ¬ (60 : Int32) ≤ nI k from nI_ge (show k < 60 by omega) (by decide))]
    by_cases k1 : (q_X8_isReachable O U V (nI k)) = 0
    · rewrite [if_pos k1]; simp only [if_pos k1] at hR
      exact (ih (k + 1) _ (by omega)).trans hR
    · rewrite [if_neg k1]; simp only [if_neg k1] at hR
      by_cases k2 : x2 = 0
      · rewrite [if_pos k2]; simp only [if_pos k2] at hR
        exact hR
      · rewrite [if_neg k2]; simp only [if_neg k2] at hR
        exact (ih (k + 1) _ (by omega)).trans hR
def o_X8_mountedNode (O : OneV) (U : NodV) (V : MemV) (x1 : Int32) : Int32 := lp_X8_mountedNode_4 O U V 60 0 x1
def q_X8_mountedNode (O : OneV) (U : NodV) (V : MemV) (x1 : Int32) : Int32 := (o_X8_mountedNode O U V x1)
theorem s_X8_mountedNode {J : MJ} {o n m g z : Nat} (hO : WorL J o n m g z) (hN : NodL J n) (hM : MemL J m n) (d_OU : o + 1 ≤ n ∨ n + 6 ≤ o) (d_OV : o + 1 ≤ m ∨ m + 12 ≤ o) (d_UV : n + 6 ≤ m ∨ m + 12 ≤ n) (X : MI) (O : OneV) (U : NodV) (V : MemV) (x1 : Int32) : M_X8_mountedNode [mR (some o), mI x1] (pt (pt (pt X o O) n U) m V, J) = some (some (mI (q_X8_mountedNode O U V x1)), (pt (pt (pt X o O) n U) m V, J)) := by
  generalize hR : some (some (mI (q_X8_mountedNode O U V x1)), (pt (pt (pt X o O) n U) m V, J)) = R
  rw [P_X8_mountedNode hO hN hM d_OU d_OV d_UV]
  unfold q_X8_mountedNode o_X8_mountedNode at hR
  have z := lr_X8_mountedNode_4 hO hN hM d_OU d_OV d_UV X O U V 60 0 x1 (Nat.zero_add _)
  rw [show nI 0 = 0 from rfl] at z
  rw [z]
  rw [← hR]
theorem P_X8_routeTo {J : MJ} {o n m g z r L : Nat} (hO : WorL J o n m g z) (hP : RouL J r L) (hN : NodL J n) (hM : MemL J m n) (d_OP : o + 1 ≤ r ∨ r + 2 ≤ o) (d_OU : o + 1 ≤ n ∨ n + 6 ≤ o) (d_OV : o + 1 ≤ m ∨ m + 12 ≤ o) (d_PU : r + 2 ≤ n ∨ n + 6 ≤ r) (d_PV : r + 2 ≤ m ∨ m + 12 ≤ r) (d_UV : n + 6 ≤ m ∨ m + 12 ≤ n) (X : MI) (O : OneV) (P : RouV) (U : NodV) (V : MemV) (x1 : Int32) : M_X8_routeTo [mR (some o), mI x1, mR (some r)] (pt (pt (pt (pt X o O) r P) n U) m V, J) = Ev T_X8_routeTo 9 [some (mR (some o)), none, some (mR (some r)), some (mI x1), some (mI 0), none] [] (pt (pt (pt (pt X o O) r (gP_X4_clear L P)) n U) m V, J) := by
  generalize hR : Ev T_X8_routeTo 9 [some (mR (some o)), none, some (mR (some r)), some (mI x1), some (mI 0), none] [] (pt (pt (pt (pt X o O) r (gP_X4_clear L P)) n U) m V, J) = R
  rw [E_X8_routeTo]
  try simp only [Option.bind_some]
  rewrite [if_pos (show kd (pt (pt (pt (pt X o O) r P) n U) m V, J) r = 4 from hP.k)]
  rw [pt_comm (pt X o O) P U d_PU, pt_comm (pt (pt X o O) n U) P V d_PV]
  rw [s_X4_clear hP]
  rw [pt_comm (pt (pt X o O) n U) V (gP_X4_clear L P) (Or.symm d_PV), pt_comm (pt X o O) U (gP_X4_clear L P) (Or.symm d_PU)]
  simp only [Option.bind_some, asV_n]
  exact hR
theorem P_X8_routeTo_9 {J : MJ} {o n m g z r L : Nat} (hO : WorL J o n m g z) (hP : RouL J r L) (hN : NodL J n) (hM : MemL J m n) (d_OP : o + 1 ≤ r ∨ r + 2 ≤ o) (d_OU : o + 1 ≤ n ∨ n + 6 ≤ o) (d_OV : o + 1 ≤ m ∨ m + 12 ≤ o) (d_PU : r + 2 ≤ n ∨ n + 6 ≤ r) (d_PV : r + 2 ≤ m ∨ m + 12 ≤ r) (d_UV : n + 6 ≤ m ∨ m + 12 ≤ n) (X : MI) (O : OneV) (P : RouV) (U : NodV) (V : MemV) (x3 : Int32) (x4 : Int32) : Ev T_X8_routeTo 9 [some (mR (some o)), none, some (mR (some r)), some (mI x3), some (mI x4), none] [] (pt (pt (pt (pt X o O) r P) n U) m V, J) = (if (120 : Int32) ≤ x4 then some (none, (pt (pt (pt (pt X o O) r (gP_X4_turnAround L P)) n U) m V, J)) else (if (q_X2_exists U x3) = 0 then some (none, (pt (pt (pt (pt X o O) r (gP_X4_turnAround L P)) n U) m V, J)) else (if (q_X2_parentOf U x3) = ((-1)) then Ev T_X8_routeTo 9 [some (mR (some o)), none, some (mR (some r)), some (mI (q_X1_nodeOf V (q_X1_coveredBy V (q_X2_volumeOf U x3)))), some (mI (x4 + 1)), none] [] (pt (pt (pt (pt X o O) r P) n U) m V, J) else Ev T_X8_routeTo 9 [some (mR (some o)), none, some (mR (some r)), some (mI (q_X2_parentOf U x3)), some (mI (x4 + 1)), none] [] (pt (pt (pt (pt X o O) r (gP_X4_push L P (q_X2_nameOf U x3))) n U) m V, J)))) := by
  generalize hR : (if (120 : Int32) ≤ x4 then some (none, (pt (pt (pt (pt X o O) r (gP_X4_turnAround L P)) n U) m V, J)) else (if (q_X2_exists U x3) = 0 then some (none, (pt (pt (pt (pt X o O) r (gP_X4_turnAround L P)) n U) m V, J)) else (if (q_X2_parentOf U x3) = ((-1)) then Ev T_X8_routeTo 9 [some (mR (some o)), none, some (mR (some r)), some (mI (q_X1_nodeOf V (q_X1_coveredBy V (q_X2_volumeOf U x3)))), some (mI (x4 + 1)), none] [] (pt (pt (pt (pt X o O) r P) n U) m V, J) else Ev T_X8_routeTo 9 [some (mR (some o)), none, some (mR (some r)), some (mI (q_X2_parentOf U x3)), some (mI (x4 + 1)), none] [] (pt (pt (pt (pt X o O) r (gP_X4_push L P (q_X2_nameOf U x3))) n U) m V, J)))) = R
  rw [E_X8_routeTo_9]
  by_cases h1 : (120 : Int32) ≤ x4
  · rewrite [if_pos h1]; simp only [if_pos h1] at hR
    try simp only [Option.bind_some]
    rewrite [if_pos (show kd (pt (pt (pt (pt X o O) r P) n U) m V, J) r = 4 from hP.k)]
    rw [pt_comm (pt X o O) P U d_PU, pt_comm (pt (pt X o O) n U) P V d_PV]
    rw [s_X4_turnAround hP]
    rw [pt_comm (pt (pt X o O) n U) V (gP_X4_turnAround L P) (Or.symm d_PV), pt_comm (pt X o O) U (gP_X4_turnAround L P) (Or.symm d_PU)]
    simp only [Option.bind_some, asV_n]
    exact hR
  · rewrite [if_neg h1]; simp only [if_neg h1] at hR
    try rewrite [fR_ok 0 hO.k]
    try rewrite [Option.bind_some]
    try rewrite [hO.r0]
    try simp only [Option.bind_some]
    rewrite [if_pos (show kd (pt (pt (pt (pt X o O) r P) n U) m V, J) n = 2 from hN.k)]
    rw [pt_comm (pt (pt X o O) r P) U V d_UV]
    rw [s_X2_exists hN]
    rw [pt_comm (pt (pt X o O) r P) V U (Or.symm d_UV)]
    simp only [Option.bind_some, asI_I]
    by_cases h2 : (q_X2_exists U x3) = 0
    · rewrite [if_pos h2]; simp only [if_pos h2] at hR
      try simp only [Option.bind_some]
      rewrite [if_pos (show kd (pt (pt (pt (pt X o O) r P) n U) m V, J) r = 4 from hP.k)]
      rw [pt_comm (pt X o O) P U d_PU, pt_comm (pt (pt X o O) n U) P V d_PV]
      rw [s_X4_turnAround hP]
      rw [pt_comm (pt (pt X o O) n U) V (gP_X4_turnAround L P) (Or.symm d_PV), pt_comm (pt X o O) U (gP_X4_turnAround L P) (Or.symm d_PU)]
      simp only [Option.bind_some, asV_n]
      exact hR
    · rewrite [if_neg h2]; simp only [if_neg h2] at hR
      try rewrite [fR_ok 0 hO.k]
      try rewrite [Option.bind_some]
      try rewrite [hO.r0]
      try simp only [Option.bind_some]
      rewrite [if_pos (show kd (pt (pt (pt (pt X o O) r P) n U) m V, J) n = 2 from hN.k)]
      rw [pt_comm (pt (pt X o O) r P) U V d_UV]
      rw [s_X2_parentOf hN]
      rw [pt_comm (pt (pt X o O) r P) V U (Or.symm d_UV)]
      simp only [Option.bind_some, asI_I]
      by_cases h3 : (q_X2_parentOf U x3) = ((-1))
      · rewrite [if_pos h3]; simp only [if_pos h3] at hR
        try rewrite [fR_ok 1 hO.k]
        try rewrite [Option.bind_some]
        try rewrite [hO.r1]
        try rewrite [fR_ok 1 hO.k]
        try rewrite [Option.bind_some]
        try rewrite [hO.r1]
        try rewrite [fR_ok 0 hO.k]
        try rewrite [Option.bind_some]
        try rewrite [hO.r0]
        try simp only [Option.bind_some]
        rewrite [if_pos (show kd (pt (pt (pt (pt X o O) r P) n U) m V, J) n = 2 from hN.k)]
        rw [pt_comm (pt (pt X o O) r P) U V d_UV]
        rw [s_X2_volumeOf hN]
        rw [pt_comm (pt (pt X o O) r P) V U (Or.symm d_UV)]
        simp only [Option.bind_some, asI_I]
        try simp only [Option.bind_some]
        rewrite [if_pos (show kd (pt (pt (pt (pt X o O) r P) n U) m V, J) m = 1 from hM.k)]
        rewrite [s_X1_coveredBy hM]
        simp only [Option.bind_some, asI_I]
        try simp only [Option.bind_some]
        rewrite [if_pos (show kd (pt (pt (pt (pt X o O) r P) n U) m V, J) m = 1 from hM.k)]
        rewrite [s_X1_nodeOf hM]
        simp only [Option.bind_some, asI_I]
        exact hR
      · rewrite [if_neg h3]; simp only [if_neg h3] at hR
        try rewrite [fR_ok 0 hO.k]
        try rewrite [Option.bind_some]
        try rewrite [hO.r0]
        try simp only [Option.bind_some]
        rewrite [if_pos (show kd (pt (pt (pt (pt X o O) r P) n U) m V, J) n = 2 from hN.k)]
        rw [pt_comm (pt (pt X o O) r P) U V d_UV]
        rw [s_X2_nameOf hN]
        rw [pt_comm (pt (pt X o O) r P) V U (Or.symm d_UV)]
        simp only [Option.bind_some, asI_I]
        try simp only [Option.bind_some]
        rewrite [if_pos (show kd (pt (pt (pt (pt X o O) r P) n U) m V, J) r = 4 from hP.k)]
        rw [pt_comm (pt X o O) P U d_PU, pt_comm (pt (pt X o O) n U) P V d_PV]
        rw [s_X4_push hP]
        rw [pt_comm (pt (pt X o O) n U) V (gP_X4_push L P (q_X2_nameOf U x3)) (Or.symm d_PV), pt_comm (pt X o O) U (gP_X4_push L P (q_X2_nameOf U x3)) (Or.symm d_PU)]
        simp only [Option.bind_some, asI_I]
        exact hR
def lp_X8_routeTo_9 (L : Nat) (O : OneV) (U : NodV) (V : MemV) : Nat → Nat → Int32 → RouV → RouV
  | 0, k, x3, P => (gP_X4_turnAround L P)
  | nn + 1, k, x3, P => (if (q_X2_exists U x3) = 0 then (gP_X4_turnAround L P) else (if (q_X2_parentOf U x3) = ((-1)) then lp_X8_routeTo_9 L O U V nn (k + 1) (q_X1_nodeOf V (q_X1_coveredBy V (q_X2_volumeOf U x3))) P else lp_X8_routeTo_9 L O U V nn (k + 1) (q_X2_parentOf U x3) (gP_X4_push L P (q_X2_nameOf U x3))))
theorem lr_X8_routeTo_9 {J : MJ} {o n m g z r L : Nat} (hO : WorL J o n m g z) (hP : RouL J r L) (hN : NodL J n) (hM : MemL J m n) (d_OP : o + 1 ≤ r ∨ r + 2 ≤ o) (d_OU : o + 1 ≤ n ∨ n + 6 ≤ o) (d_OV : o + 1 ≤ m ∨ m + 12 ≤ o) (d_PU : r + 2 ≤ n ∨ n + 6 ≤ r) (d_PV : r + 2 ≤ m ∨ m + 12 ≤ r) (d_UV : n + 6 ≤ m ∨ m + 12 ≤ n) (X : MI) (O : OneV) (U : NodV) (V : MemV) : ∀ (nn k : Nat) (x3 : Int32) (P : RouV), k + nn = 120 → Ev T_X8_routeTo 9 [some (mR (some o)), none, some (mR (some r)), some (mI x3), some (mI (nI k)), none] [] (pt (pt (pt (pt X o O) r P) n U) m V, J) = some (none, (pt (pt (pt (pt X o O) r ((lp_X8_routeTo_9 L O U V nn k x3 P))) n U) m V, J)) := by
  intro nn
  induction nn with
  | zero =>
    intro k x3 P hk
    have hk : k = 120 := by omega
    subst hk
    generalize hR : some (none, (pt (pt (pt (pt X o O) r ((lp_X8_routeTo_9 L O U V 0 120 x3 P))) n U) m V, J)) = R
    rw [lp_X8_routeTo_9] at hR
    rw [P_X8_routeTo_9 hO hP hN hM d_OP d_OU d_OV d_PU d_PV d_UV _ _ _ _ _ _ _]
    rewrite [if_pos (show (120 : Int32) ≤ nI 120 from Int32.le_refl _)]
    exact hR
  | succ nn ih =>
    intro k x3 P hk
    generalize hR : some (none, (pt (pt (pt (pt X o O) r ((lp_X8_routeTo_9 L O U V (nn + 1) k x3 P))) n U) m V, J)) = R
    rw [lp_X8_routeTo_9] at hR
    rw [P_X8_routeTo_9 hO hP hN hM d_OP d_OU d_OV d_PU d_PV d_UV _ _ _ _ _ _ _]
    try rw [ix_nI (by omega)]
    rw [nI_1 k]
    rewrite [if_neg (show ¬ (120 : Int32) ≤ nI k from nI_ge (show k < 120 by omega) (by decide))]
    by_cases k1 : (q_X2_exists U x3) = 0
    · rewrite [if_pos k1]; simp only [if_pos k1] at hR
      exact hR
    · rewrite [if_neg k1]; simp only [if_neg k1] at hR
      by_cases k2 : (q_X2_parentOf U x3) = ((-1))
      · rewrite [if_pos k2]; simp only [if_pos k2] at hR
        exact (ih (k + 1) _ _ (by omega)).trans hR
      · rewrite [if_neg k2]; simp only [if_neg k2] at hR
        exact (ih (k + 1) _ _ (by omega)).trans hR
def o_X8_routeTo (L : Nat) (O : OneV) (P : RouV) (U : NodV) (V : MemV) (x1 : Int32) : RouV := lp_X8_routeTo_9 L O U V 120 0 x1 (gP_X4_clear L P)
def gP_X8_routeTo (L : Nat) (O : OneV) (P : RouV) (U : NodV) (V : MemV) (x1 : Int32) : RouV := (o_X8_routeTo L O P U V x1)
theorem s_X8_routeTo {J : MJ} {o n m g z r L : Nat} (hO : WorL J o n m g z) (hP : RouL J r L) (hN : NodL J n) (hM : MemL J m n) (d_OP : o + 1 ≤ r ∨ r + 2 ≤ o) (d_OU : o + 1 ≤ n ∨ n + 6 ≤ o) (d_OV : o + 1 ≤ m ∨ m + 12 ≤ o) (d_PU : r + 2 ≤ n ∨ n + 6 ≤ r) (d_PV : r + 2 ≤ m ∨ m + 12 ≤ r) (d_UV : n + 6 ≤ m ∨ m + 12 ≤ n) (X : MI) (O : OneV) (P : RouV) (U : NodV) (V : MemV) (x1 : Int32) : M_X8_routeTo [mR (some o), mI x1, mR (some r)] (pt (pt (pt (pt X o O) r P) n U) m V, J) = some (none, (pt (pt (pt (pt X o O) r ((gP_X8_routeTo L O P U V x1))) n U) m V, J)) := by
  generalize hR : some (none, (pt (pt (pt (pt X o O) r ((gP_X8_routeTo L O P U V x1))) n U) m V, J)) = R
  rw [P_X8_routeTo hO hP hN hM d_OP d_OU d_OV d_PU d_PV d_UV]
  unfold gP_X8_routeTo o_X8_routeTo at hR
  have z := lr_X8_routeTo_9 hO hP hN hM d_OP d_OU d_OV d_PU d_PV d_UV X O U V 120 0 x1 (gP_X4_clear L P) (Nat.zero_add _)
  rw [show nI 0 = 0 from rfl] at z
  rw [z]
  rw [← hR]
def q_X3_fail (E : OneV) (x1 : Int32) (x2 : Int32) : Int32 := 0
def gE_X3_fail (E : OneV) (x1 : Int32) (x2 : Int32) : OneV := uv (uv E 0 1 x1) 0 2 x2
theorem s_X3_fail {J : MJ} {e n : Nat} (hE : RdrL J e n) (X : MI) (E : OneV) (x1 : Int32) (x2 : Int32) : M_X3_fail [mR (some e), mI x1, mI x2] (pt X e E, J) = some (some (mI (q_X3_fail E x1 x2)), (pt X e (gE_X3_fail E x1 x2), J)) := by
  generalize hR : some (some (mI (q_X3_fail E x1 x2)), (pt X e (gE_X3_fail E x1 x2), J)) = R
  rw [E_X3_fail]
  unfold q_X3_fail gE_X3_fail at hR
  try rewrite [wI_ok 1 _ hE.k]
  try rewrite [Option.bind_some]
  try rewrite [u1_0]
  try rewrite [wI_ok 2 _ hE.k]
  try rewrite [Option.bind_some]
  try rewrite [u1_0]
  first | exact hR | (simp only [if_pos (show (0 : Int32) = 0 ∨ (0 : Int32) = 1 by decide), if_pos (show (1 : Int32) = 0 ∨ (1 : Int32) = 1 by decide)]; exact hR) | (simp; exact hR)
theorem z_X3_fail (E : OneV) (x1 : Int32) (x2 : Int32) : q_X3_fail E x1 x2 = 0 ∨ q_X3_fail E x1 x2 = 1 := by
  unfold q_X3_fail
  first | exact Or.inl rfl | simp
def q_X3_openFolder (E : OneV) (U : NodV) (x1 : Int32) : Int32 := (if (E 0 4) < 8 then 1 else q_X3_fail E 5 (E 0 3))
def gE_X3_openFolder (E : OneV) (U : NodV) (x1 : Int32) : OneV := (if (E 0 4) < 8 then uv (uv (uv E 0 5 x1) 0 4 ((E 0 4) + 1)) 0 3 ((E 0 3) + 1) else gE_X3_fail E 5 (E 0 3))
def gU_X3_openFolder (E : OneV) (U : NodV) (x1 : Int32) : NodV := (if (E 0 4) < 8 then gU_X2_becomeFolder U x1 else U)
theorem s_X3_openFolder {J : MJ} {e n : Nat} (hE : RdrL J e n) (hN : NodL J n) (d_EU : e + 1 ≤ n ∨ n + 6 ≤ e) (X : MI) (E : OneV) (U : NodV) (x1 : Int32) : M_X3_openFolder [mR (some e), mI x1] (pt (pt X e E) n U, J) = some (some (mI (q_X3_openFolder E U x1)), (pt (pt X e (gE_X3_openFolder E U x1)) n (gU_X3_openFolder E U x1), J)) := by
  generalize hR : some (some (mI (q_X3_openFolder E U x1)), (pt (pt X e (gE_X3_openFolder E U x1)) n (gU_X3_openFolder E U x1), J)) = R
  rw [E_X3_openFolder]
  unfold q_X3_openFolder gE_X3_openFolder gU_X3_openFolder at hR
  try rewrite [fI_ok 4 hE.k]
  try rewrite [Option.bind_some]
  try rewrite [pt_out (x := e) (a := n) (by have := d_EU; omega)]
  try rewrite [p1_0]
  by_cases h1 : (E 0 4) < 8
  · rewrite [if_pos h1]; simp only [if_pos h1] at hR
    try rewrite [fR_ok 0 hE.k]
    try rewrite [Option.bind_some]
    try rewrite [hE.r0]
    try simp only [Option.bind_some]
    rewrite [if_pos (show kd (pt (pt X e E) n U, J) n = 2 from hN.k)]
    rewrite [s_X2_becomeFolder hN]
    simp only [Option.bind_some, asV_n]
    try rewrite [wI_ok 5 _ hE.k]
    try rewrite [Option.bind_some]
    try rewrite [up_out (x := e) (a := n) (by have := d_EU; omega)]
    try rewrite [u1_0]
    try rewrite [fI_ok 4 hE.k]
    try rewrite [Option.bind_some]
    try rewrite [pt_out (x := e) (a := n) (by have := d_EU; omega)]
    try rewrite [p1_0]
    try rewrite [uv_n _ _ _ _ _ _ (by decide)]
    try rewrite [wI_ok 4 _ hE.k]
    try rewrite [Option.bind_some]
    try rewrite [up_out (x := e) (a := n) (by have := d_EU; omega)]
    try rewrite [u1_0]
    try rewrite [fI_ok 3 hE.k]
    try rewrite [Option.bind_some]
    try rewrite [pt_out (x := e) (a := n) (by have := d_EU; omega)]
    try rewrite [p1_0]
    try rewrite [uv_n _ _ _ _ _ _ (by decide)]
    try rewrite [uv_n _ _ _ _ _ _ (by decide)]
    try rewrite [wI_ok 3 _ hE.k]
    try rewrite [Option.bind_some]
    try rewrite [up_out (x := e) (a := n) (by have := d_EU; omega)]
    try rewrite [u1_0]
    first | exact hR | (simp only [if_pos (show (0 : Int32) = 0 ∨ (0 : Int32) = 1 by decide), if_pos (show (1 : Int32) = 0 ∨ (1 : Int32) = 1 by decide)]; exact hR) | (simp; exact hR)
  · rewrite [if_neg h1]; simp only [if_neg h1] at hR
    try rewrite [fI_ok 3 hE.k]
    try rewrite [Option.bind_some]
    try rewrite [pt_out (x := e) (a := n) (by have := d_EU; omega)]
    try rewrite [p1_0]
    try simp only [Option.bind_some]
    rewrite [if_pos (show kd (pt (pt X e E) n U, J) e = 3 from hE.k)]
    rw [pt_comm X E U d_EU]
    rw [s_X3_fail hE]
    rw [pt_comm X U (gE_X3_fail E 5 (E 0 3)) (Or.symm d_EU)]
    simp only [Option.bind_some, asI_I]
    try rewrite [if_pos (z_X3_fail ..)]
    exact hR
theorem z_X3_openFolder (E : OneV) (U : NodV) (x1 : Int32) : q_X3_openFolder E U x1 = 0 ∨ q_X3_openFolder E U x1 = 1 := by
  unfold q_X3_openFolder
  by_cases k1 : (E 0 4) < 8
  · simp only [if_pos k1]
    first | exact Or.inr rfl | simp
  · simp only [if_neg k1]
    exact z_X3_fail ..
theorem P_X3_readItem {J : MJ} {e n t : Nat} (hE : RdrL J e n) (hT : TapL J t) (hN : NodL J n) (d_EQ : e + 1 ≤ t ∨ t + 2 ≤ e) (d_EU : e + 1 ≤ n ∨ n + 6 ≤ e) (d_QU : t + 2 ≤ n ∨ n + 6 ≤ t) (X : MI) (E : OneV) (Q : RouV) (U : NodV) : M_X3_readItem [mR (some e), mR (some t)] (pt (pt (pt X e E) t Q) n U, J) = (if (U 0 5) < 40 then Ev T_X3_readItem 24 [some (mR (some e)), some (mR (some t)), some (mI (E 0 3)), none, none] [] (pt (pt (pt X e E) t Q) n U, J) else some (some (mI (q_X3_fail E 5 (E 0 3))), (pt (pt (pt X e (gE_X3_fail E 5 (E 0 3))) t Q) n U, J))) := by
  generalize hR : (if (U 0 5) < 40 then Ev T_X3_readItem 24 [some (mR (some e)), some (mR (some t)), some (mI (E 0 3)), none, none] [] (pt (pt (pt X e E) t Q) n U, J) else some (some (mI (q_X3_fail E 5 (E 0 3))), (pt (pt (pt X e (gE_X3_fail E 5 (E 0 3))) t Q) n U, J))) = R
  rw [E_X3_readItem]
  try rewrite [fI_ok 3 hE.k]
  try rewrite [Option.bind_some]
  try rewrite [pt_out (x := e) (a := n) (by have := d_EU; omega)]
  try rewrite [pt_out (x := e) (a := t) (by have := d_EQ; omega)]
  try rewrite [p1_0]
  try rewrite [fR_ok 0 hE.k]
  try rewrite [Option.bind_some]
  try rewrite [hE.r0]
  try simp only [Option.bind_some]
  try rewrite [fI_ok 5 hN.k]
  try rewrite [Option.bind_some]
  try rewrite [p6_0]
  by_cases h1 : (U 0 5) < 40
  · rewrite [if_pos h1]; simp only [if_pos h1] at hR
    exact hR
  · rewrite [if_neg h1]; simp only [if_neg h1] at hR
    try simp only [Option.bind_some]
    rewrite [if_pos (show kd (pt (pt (pt X e E) t Q) n U, J) e = 3 from hE.k)]
    rw [pt_comm X E Q d_EQ, pt_comm (pt X t Q) E U d_EU]
    rw [s_X3_fail hE]
    rw [pt_comm (pt X t Q) U (gE_X3_fail E 5 (E 0 3)) (Or.symm d_EU), pt_comm X Q (gE_X3_fail E 5 (E 0 3)) (Or.symm d_EQ)]
    simp only [Option.bind_some, asI_I]
    try rewrite [if_pos (z_X3_fail ..)]
    exact hR
theorem P_X3_readItem_24 {J : MJ} {e n t : Nat} (hE : RdrL J e n) (hT : TapL J t) (hN : NodL J n) (d_EQ : e + 1 ≤ t ∨ t + 2 ≤ e) (d_EU : e + 1 ≤ n ∨ n + 6 ≤ e) (d_QU : t + 2 ≤ n ∨ n + 6 ≤ t) (X : MI) (E : OneV) (Q : RouV) (U : NodV) (x2 : Int32) : Ev T_X3_readItem 24 [some (mR (some e)), some (mR (some t)), some (mI x2), none, none] [] (pt (pt (pt X e E) t Q) n U, J) = (if (4 : Int32) ≤ ((E 0 3) - x2) then (if (q_X9_isLetter (q_X5_at Q (E 0 3))) = 0 then (if (q_X2_find U (E 0 5) (q_X9_nameBetween Q x2 (E 0 3))) = ((-1)) then (if (q_X5_at Q ((gE_X3_skipBlanks E Q) 0 3)) = 123 then (if (q_X3_openFolder (gE_X3_skipBlanks E Q) (gU_X2_addIn U (E 0 5) (q_X9_nameBetween Q x2 (E 0 3)) 1) (q_X2_addIn U (E 0 5) (q_X9_nameBetween Q x2 (E 0 3)) 1)) = 0 then some (some (mI 0), (pt (pt (pt X e (gE_X3_openFolder (gE_X3_skipBlanks E Q) (gU_X2_addIn U (E 0 5) (q_X9_nameBetween Q x2 (E 0 3)) 1) (q_X2_addIn U (E 0 5) (q_X9_nameBetween Q x2 (E 0 3)) 1))) t Q) n (gU_X3_openFolder (gE_X3_skipBlanks E Q) (gU_X2_addIn U (E 0 5) (q_X9_nameBetween Q x2 (E 0 3)) 1) (q_X2_addIn U (E 0 5) (q_X9_nameBetween Q x2 (E 0 3)) 1)), J)) else some (some (mI 1), (pt (pt (pt X e (gE_X3_openFolder (gE_X3_skipBlanks E Q) (gU_X2_addIn U (E 0 5) (q_X9_nameBetween Q x2 (E 0 3)) 1) (q_X2_addIn U (E 0 5) (q_X9_nameBetween Q x2 (E 0 3)) 1))) t Q) n (gU_X3_openFolder (gE_X3_skipBlanks E Q) (gU_X2_addIn U (E 0 5) (q_X9_nameBetween Q x2 (E 0 3)) 1) (q_X2_addIn U (E 0 5) (q_X9_nameBetween Q x2 (E 0 3)) 1)), J))) else some (some (mI 1), (pt (pt (pt X e (gE_X3_skipBlanks E Q)) t Q) n (gU_X2_addIn U (E 0 5) (q_X9_nameBetween Q x2 (E 0 3)) 1), J))) else some (some (mI (q_X3_fail E 3 x2)), (pt (pt (pt X e (gE_X3_fail E 3 x2)) t Q) n U, J))) else some (some (mI (q_X3_fail E 1 (E 0 3))), (pt (pt (pt X e (gE_X3_fail E 1 (E 0 3))) t Q) n U, J))) else (if (q_X9_isLetter (q_X5_at Q (E 0 3))) = 0 then (if (q_X2_find U (E 0 5) (q_X9_nameBetween Q x2 (E 0 3))) = ((-1)) then (if (q_X5_at Q ((gE_X3_skipBlanks E Q) 0 3)) = 123 then (if (q_X3_openFolder (gE_X3_skipBlanks E Q) (gU_X2_addIn U (E 0 5) (q_X9_nameBetween Q x2 (E 0 3)) 1) (q_X2_addIn U (E 0 5) (q_X9_nameBetween Q x2 (E 0 3)) 1)) = 0 then some (some (mI 0), (pt (pt (pt X e (gE_X3_openFolder (gE_X3_skipBlanks E Q) (gU_X2_addIn U (E 0 5) (q_X9_nameBetween Q x2 (E 0 3)) 1) (q_X2_addIn U (E 0 5) (q_X9_nameBetween Q x2 (E 0 3)) 1))) t Q) n (gU_X3_openFolder (gE_X3_skipBlanks E Q) (gU_X2_addIn U (E 0 5) (q_X9_nameBetween Q x2 (E 0 3)) 1) (q_X2_addIn U (E 0 5) (q_X9_nameBetween Q x2 (E 0 3)) 1)), J)) else some (some (mI 1), (pt (pt (pt X e (gE_X3_openFolder (gE_X3_skipBlanks E Q) (gU_X2_addIn U (E 0 5) (q_X9_nameBetween Q x2 (E 0 3)) 1) (q_X2_addIn U (E 0 5) (q_X9_nameBetween Q x2 (E 0 3)) 1))) t Q) n (gU_X3_openFolder (gE_X3_skipBlanks E Q) (gU_X2_addIn U (E 0 5) (q_X9_nameBetween Q x2 (E 0 3)) 1) (q_X2_addIn U (E 0 5) (q_X9_nameBetween Q x2 (E 0 3)) 1)), J))) else some (some (mI 1), (pt (pt (pt X e (gE_X3_skipBlanks E Q)) t Q) n (gU_X2_addIn U (E 0 5) (q_X9_nameBetween Q x2 (E 0 3)) 1), J))) else some (some (mI (q_X3_fail E 3 x2)), (pt (pt (pt X e (gE_X3_fail E 3 x2)) t Q) n U, J))) else Ev T_X3_readItem 24 [some (mR (some e)), some (mR (some t)), some (mI x2), none, none] [] (pt (pt (pt X e (uv E 0 3 ((E 0 3) + 1))) t Q) n U, J))) := by
  generalize hR : (if (4 : Int32) ≤ ((E 0 3) - x2) then (if (q_X9_isLetter (q_X5_at Q (E 0 3))) = 0 then (if (q_X2_find U (E 0 5) (q_X9_nameBetween Q x2 (E 0 3))) = ((-1)) then (if (q_X5_at Q ((gE_X3_skipBlanks E Q) 0 3)) = 123 then (if (q_X3_openFolder (gE_X3_skipBlanks E Q) (gU_X2_addIn U (E 0 5) (q_X9_nameBetween Q x2 (E 0 3)) 1) (q_X2_addIn U (E 0 5) (q_X9_nameBetween Q x2 (E 0 3)) 1)) = 0 then some (some (mI 0), (pt (pt (pt X e (gE_X3_openFolder (gE_X3_skipBlanks E Q) (gU_X2_addIn U (E 0 5) (q_X9_nameBetween Q x2 (E 0 3)) 1) (q_X2_addIn U (E 0 5) (q_X9_nameBetween Q x2 (E 0 3)) 1))) t Q) n (gU_X3_openFolder (gE_X3_skipBlanks E Q) (gU_X2_addIn U (E 0 5) (q_X9_nameBetween Q x2 (E 0 3)) 1) (q_X2_addIn U (E 0 5) (q_X9_nameBetween Q x2 (E 0 3)) 1)), J)) else some (some (mI 1), (pt (pt (pt X e (gE_X3_openFolder (gE_X3_skipBlanks E Q) (gU_X2_addIn U (E 0 5) (q_X9_nameBetween Q x2 (E 0 3)) 1) (q_X2_addIn U (E 0 5) (q_X9_nameBetween Q x2 (E 0 3)) 1))) t Q) n (gU_X3_openFolder (gE_X3_skipBlanks E Q) (gU_X2_addIn U (E 0 5) (q_X9_nameBetween Q x2 (E 0 3)) 1) (q_X2_addIn U (E 0 5) (q_X9_nameBetween Q x2 (E 0 3)) 1)), J))) else some (some (mI 1), (pt (pt (pt X e (gE_X3_skipBlanks E Q)) t Q) n (gU_X2_addIn U (E 0 5) (q_X9_nameBetween Q x2 (E 0 3)) 1), J))) else some (some (mI (q_X3_fail E 3 x2)), (pt (pt (pt X e (gE_X3_fail E 3 x2)) t Q) n U, J))) else some (some (mI (q_X3_fail E 1 (E 0 3))), (pt (pt (pt X e (gE_X3_fail E 1 (E 0 3))) t Q) n U, J))) else (if (q_X9_isLetter (q_X5_at Q (E 0 3))) = 0 then (if (q_X2_find U (E 0 5) (q_X9_nameBetween Q x2 (E 0 3))) = ((-1)) then (if (q_X5_at Q ((gE_X3_skipBlanks E Q) 0 3)) = 123 then (if (q_X3_openFolder (gE_X3_skipBlanks E Q) (gU_X2_addIn U (E 0 5) (q_X9_nameBetween Q x2 (E 0 3)) 1) (q_X2_addIn U (E 0 5) (q_X9_nameBetween Q x2 (E 0 3)) 1)) = 0 then some (some (mI 0), (pt (pt (pt X e (gE_X3_openFolder (gE_X3_skipBlanks E Q) (gU_X2_addIn U (E 0 5) (q_X9_nameBetween Q x2 (E 0 3)) 1) (q_X2_addIn U (E 0 5) (q_X9_nameBetween Q x2 (E 0 3)) 1))) t Q) n (gU_X3_openFolder (gE_X3_skipBlanks E Q) (gU_X2_addIn U (E 0 5) (q_X9_nameBetween Q x2 (E 0 3)) 1) (q_X2_addIn U (E 0 5) (q_X9_nameBetween Q x2 (E 0 3)) 1)), J)) else some (some (mI 1), (pt (pt (pt X e (gE_X3_openFolder (gE_X3_skipBlanks E Q) (gU_X2_addIn U (E 0 5) (q_X9_nameBetween Q x2 (E 0 3)) 1) (q_X2_addIn U (E 0 5) (q_X9_nameBetween Q x2 (E 0 3)) 1))) t Q) n (gU_X3_openFolder (gE_X3_skipBlanks E Q) (gU_X2_addIn U (E 0 5) (q_X9_nameBetween Q x2 (E 0 3)) 1) (q_X2_addIn U (E 0 5) (q_X9_nameBetween Q x2 (E 0 3)) 1)), J))) else some (some (mI 1), (pt (pt (pt X e (gE_X3_skipBlanks E Q)) t Q) n (gU_X2_addIn U (E 0 5) (q_X9_nameBetween Q x2 (E 0 3)) 1), J))) else some (some (mI (q_X3_fail E 3 x2)), (pt (pt (pt X e (gE_X3_fail E 3 x2)) t Q) n U, J))) else Ev T_X3_readItem 24 [some (mR (some e)), some (mR (some t)), some (mI x2), none, none] [] (pt (pt (pt X e (uv E 0 3 ((E 0 3) + 1))) t Q) n U, J))) = R
  rw [E_X3_readItem_24]
  try rewrite [fI_ok 3 hE.k]
  try rewrite [Option.bind_some]
  try rewrite [pt_out (x := e) (a := n) (by have := d_EU; omega)]
  try rewrite [pt_out (x := e) (a := t) (by have := d_EQ; omega)]
  try rewrite [p1_0]
  by_cases h1 : (4 : Int32) ≤ ((E 0 3) - x2)
  · rewrite [if_pos h1]; simp only [if_pos h1] at hR
    try rewrite [fI_ok 3 hE.k]
    try rewrite [Option.bind_some]
    try rewrite [pt_out (x := e) (a := n) (by have := d_EU; omega)]
    try rewrite [pt_out (x := e) (a := t) (by have := d_EQ; omega)]
    try rewrite [p1_0]
    try simp only [Option.bind_some]
    rewrite [if_pos (show kd (pt (pt (pt X e E) t Q) n U, J) t = 5 from hT.k)]
    rw [pt_comm (pt X e E) Q U d_QU]
    rw [s_X5_at hT]
    rw [pt_comm (pt X e E) U Q (Or.symm d_QU)]
    simp only [Option.bind_some, asI_I]
    try simp only [Option.bind_some]
    rewrite [s_X9_isLetter ]
    simp only [Option.bind_some, asI_I]
    by_cases h2 : (q_X9_isLetter (q_X5_at Q (E 0 3))) = 0
    · rewrite [if_pos h2]; simp only [if_pos h2] at hR
      try rewrite [fI_ok 3 hE.k]
      try rewrite [Option.bind_some]
      try rewrite [pt_out (x := e) (a := n) (by have := d_EU; omega)]
      try rewrite [pt_out (x := e) (a := t) (by have := d_EQ; omega)]
      try rewrite [p1_0]
      try simp only [Option.bind_some]
      rw [pt_comm (pt X e E) Q U d_QU]
      rw [s_X9_nameBetween hT]
      rw [pt_comm (pt X e E) U Q (Or.symm d_QU)]
      simp only [Option.bind_some, asI_I]
      try rewrite [fR_ok 0 hE.k]
      try rewrite [Option.bind_some]
      try rewrite [hE.r0]
      try rewrite [fI_ok 5 hE.k]
      try rewrite [Option.bind_some]
      try rewrite [pt_out (x := e) (a := n) (by have := d_EU; omega)]
      try rewrite [pt_out (x := e) (a := t) (by have := d_EQ; omega)]
      try rewrite [p1_0]
      try simp only [Option.bind_some]
      rewrite [if_pos (show kd (pt (pt (pt X e E) t Q) n U, J) n = 2 from hN.k)]
      rewrite [s_X2_find hN]
      simp only [Option.bind_some, asI_I]
      by_cases h3 : (q_X2_find U (E 0 5) (q_X9_nameBetween Q x2 (E 0 3))) = ((-1))
      · rewrite [if_pos h3]; simp only [if_pos h3] at hR
        try rewrite [fR_ok 0 hE.k]
        try rewrite [Option.bind_some]
        try rewrite [hE.r0]
        try rewrite [fI_ok 5 hE.k]
        try rewrite [Option.bind_some]
        try rewrite [pt_out (x := e) (a := n) (by have := d_EU; omega)]
        try rewrite [pt_out (x := e) (a := t) (by have := d_EQ; omega)]
        try rewrite [p1_0]
        try simp only [Option.bind_some]
        rewrite [if_pos (show kd (pt (pt (pt X e E) t Q) n U, J) n = 2 from hN.k)]
        rewrite [s_X2_addIn hN]
        simp only [Option.bind_some, asI_I]
        try simp only [Option.bind_some]
        rewrite [if_pos (show kd (pt (pt (pt X e E) t Q) n (gU_X2_addIn U (E 0 5) (q_X9_nameBetween Q x2 (E 0 3)) 1), J) e = 3 from hE.k)]
        rw [pt_comm (pt X e E) Q (gU_X2_addIn U (E 0 5) (q_X9_nameBetween Q x2 (E 0 3)) 1) d_QU, pt_comm X E (gU_X2_addIn U (E 0 5) (q_X9_nameBetween Q x2 (E 0 3)) 1) d_EU]
        rw [s_X3_skipBlanks hE hT d_EQ]
        rw [pt_comm X (gU_X2_addIn U (E 0 5) (q_X9_nameBetween Q x2 (E 0 3)) 1) (gE_X3_skipBlanks E Q) (Or.symm d_EU), pt_comm (pt X e (gE_X3_skipBlanks E Q)) (gU_X2_addIn U (E 0 5) (q_X9_nameBetween Q x2 (E 0 3)) 1) Q (Or.symm d_QU)]
        simp only [Option.bind_some, asV_n]
        try rewrite [fI_ok 3 hE.k]
        try rewrite [Option.bind_some]
        try rewrite [pt_out (x := e) (a := n) (by have := d_EU; omega)]
        try rewrite [pt_out (x := e) (a := t) (by have := d_EQ; omega)]
        try rewrite [p1_0]
        try simp only [Option.bind_some]
        rewrite [if_pos (show kd (pt (pt (pt X e (gE_X3_skipBlanks E Q)) t Q) n (gU_X2_addIn U (E 0 5) (q_X9_nameBetween Q x2 (E 0 3)) 1), J) t = 5 from hT.k)]
        rw [pt_comm (pt X e (gE_X3_skipBlanks E Q)) Q (gU_X2_addIn U (E 0 5) (q_X9_nameBetween Q x2 (E 0 3)) 1) d_QU]
        rw [s_X5_at hT]
        rw [pt_comm (pt X e (gE_X3_skipBlanks E Q)) (gU_X2_addIn U (E 0 5) (q_X9_nameBetween Q x2 (E 0 3)) 1) Q (Or.symm d_QU)]
        simp only [Option.bind_some, asI_I]
        by_cases h4 : (q_X5_at Q ((gE_X3_skipBlanks E Q) 0 3)) = 123
        · rewrite [if_pos h4]; simp only [if_pos h4] at hR
          try simp only [Option.bind_some]
          rewrite [if_pos (show kd (pt (pt (pt X e (gE_X3_skipBlanks E Q)) t Q) n (gU_X2_addIn U (E 0 5) (q_X9_nameBetween Q x2 (E 0 3)) 1), J) e = 3 from hE.k)]
          rw [pt_comm X (gE_X3_skipBlanks E Q) Q d_EQ]
          rw [s_X3_openFolder hE hN d_EU]
          rw [pt_comm X Q (gE_X3_openFolder (gE_X3_skipBlanks E Q) (gU_X2_addIn U (E 0 5) (q_X9_nameBetween Q x2 (E 0 3)) 1) (q_X2_addIn U (E 0 5) (q_X9_nameBetween Q x2 (E 0 3)) 1)) (Or.symm d_EQ)]
          simp only [Option.bind_some, asI_I]
          by_cases h5 : (q_X3_openFolder (gE_X3_skipBlanks E Q) (gU_X2_addIn U (E 0 5) (q_X9_nameBetween Q x2 (E 0 3)) 1) (q_X2_addIn U (E 0 5) (q_X9_nameBetween Q x2 (E 0 3)) 1)) = 0
          · rewrite [if_pos h5]; simp only [if_pos h5] at hR
            first | exact hR | (simp only [if_pos (show (0 : Int32) = 0 ∨ (0 : Int32) = 1 by decide), if_pos (show (1 : Int32) = 0 ∨ (1 : Int32) = 1 by decide)]; exact hR) | (simp; exact hR)
          · rewrite [if_neg h5]; simp only [if_neg h5] at hR
            first | exact hR | (simp only [if_pos (show (0 : Int32) = 0 ∨ (0 : Int32) = 1 by decide), if_pos (show (1 : Int32) = 0 ∨ (1 : Int32) = 1 by decide)]; exact hR) | (simp; exact hR)
        · rewrite [if_neg h4]; simp only [if_neg h4] at hR
          first | exact hR | (simp only [if_pos (show (0 : Int32) = 0 ∨ (0 : Int32) = 1 by decide), if_pos (show (1 : Int32) = 0 ∨ (1 : Int32) = 1 by decide)]; exact hR) | (simp; exact hR)
      · rewrite [if_neg h3]; simp only [if_neg h3] at hR
        try simp only [Option.bind_some]
        rewrite [if_pos (show kd (pt (pt (pt X e E) t Q) n U, J) e = 3 from hE.k)]
        rw [pt_comm X E Q d_EQ, pt_comm (pt X t Q) E U d_EU]
        rw [s_X3_fail hE]
        rw [pt_comm (pt X t Q) U (gE_X3_fail E 3 x2) (Or.symm d_EU), pt_comm X Q (gE_X3_fail E 3 x2) (Or.symm d_EQ)]
        simp only [Option.bind_some, asI_I]
        try rewrite [if_pos (z_X3_fail ..)]
        exact hR
    · rewrite [if_neg h2]; simp only [if_neg h2] at hR
      try rewrite [fI_ok 3 hE.k]
      try rewrite [Option.bind_some]
      try rewrite [pt_out (x := e) (a := n) (by have := d_EU; omega)]
      try rewrite [pt_out (x := e) (a := t) (by have := d_EQ; omega)]
      try rewrite [p1_0]
      try simp only [Option.bind_some]
      rewrite [if_pos (show kd (pt (pt (pt X e E) t Q) n U, J) e = 3 from hE.k)]
      rw [pt_comm X E Q d_EQ, pt_comm (pt X t Q) E U d_EU]
      rw [s_X3_fail hE]
      rw [pt_comm (pt X t Q) U (gE_X3_fail E 1 (E 0 3)) (Or.symm d_EU), pt_comm X Q (gE_X3_fail E 1 (E 0 3)) (Or.symm d_EQ)]
      simp only [Option.bind_some, asI_I]
      try rewrite [if_pos (z_X3_fail ..)]
      exact hR
  · rewrite [if_neg h1]; simp only [if_neg h1] at hR
    try rewrite [fI_ok 3 hE.k]
    try rewrite [Option.bind_some]
    try rewrite [pt_out (x := e) (a := n) (by have := d_EU; omega)]
    try rewrite [pt_out (x := e) (a := t) (by have := d_EQ; omega)]
    try rewrite [p1_0]
    try simp only [Option.bind_some]
    rewrite [if_pos (show kd (pt (pt (pt X e E) t Q) n U, J) t = 5 from hT.k)]
    rw [pt_comm (pt X e E) Q U d_QU]
    rw [s_X5_at hT]
    rw [pt_comm (pt X e E) U Q (Or.symm d_QU)]
    simp only [Option.bind_some, asI_I]
    try simp only [Option.bind_some]
    rewrite [s_X9_isLetter ]
    simp only [Option.bind_some, asI_I]
    by_cases h6 : (q_X9_isLetter (q_X5_at Q (E 0 3))) = 0
    · rewrite [if_pos h6]; simp only [if_pos h6] at hR
      try rewrite [fI_ok 3 hE.k]
      try rewrite [Option.bind_some]
      try rewrite [pt_out (x := e) (a := n) (by have := d_EU; omega)]
      try rewrite [pt_out (x := e) (a := t) (by have := d_EQ; omega)]
      try rewrite [p1_0]
      try simp only [Option.bind_some]
      rewrite [if_pos (show kd (pt (pt (pt X e E) t Q) n U, J) t = 5 from hT.k)]
      rw [pt_comm (pt X e E) Q U d_QU]
      rw [s_X5_at hT]
      rw [pt_comm (pt X e E) U Q (Or.symm d_QU)]
      simp only [Option.bind_some, asI_I]
      try simp only [Option.bind_some]
      rewrite [s_X9_isLetter ]
      simp only [Option.bind_some, asI_I]
      try rewrite [if_pos h6]
      try rewrite [fI_ok 3 hE.k]
      try rewrite [Option.bind_some]
      try rewrite [pt_out (x := e) (a := n) (by have := d_EU; omega)]
      try rewrite [pt_out (x := e) (a := t) (by have := d_EQ; omega)]
      try rewrite [p1_0]
      try simp only [Option.bind_some]
      rw [pt_comm (pt X e E) Q U d_QU]
      rw [s_X9_nameBetween hT]
      rw [pt_comm (pt X e E) U Q (Or.symm d_QU)]
      simp only [Option.bind_some, asI_I]
      try rewrite [fR_ok 0 hE.k]
      try rewrite [Option.bind_some]
      try rewrite [hE.r0]
      try rewrite [fI_ok 5 hE.k]
      try rewrite [Option.bind_some]
      try rewrite [pt_out (x := e) (a := n) (by have := d_EU; omega)]
      try rewrite [pt_out (x := e) (a := t) (by have := d_EQ; omega)]
      try rewrite [p1_0]
      try simp only [Option.bind_some]
      rewrite [if_pos (show kd (pt (pt (pt X e E) t Q) n U, J) n = 2 from hN.k)]
      rewrite [s_X2_find hN]
      simp only [Option.bind_some, asI_I]
      by_cases h7 : (q_X2_find U (E 0 5) (q_X9_nameBetween Q x2 (E 0 3))) = ((-1))
      · rewrite [if_pos h7]; simp only [if_pos h7] at hR
        try rewrite [fR_ok 0 hE.k]
        try rewrite [Option.bind_some]
        try rewrite [hE.r0]
        try rewrite [fI_ok 5 hE.k]
        try rewrite [Option.bind_some]
        try rewrite [pt_out (x := e) (a := n) (by have := d_EU; omega)]
        try rewrite [pt_out (x := e) (a := t) (by have := d_EQ; omega)]
        try rewrite [p1_0]
        try simp only [Option.bind_some]
        rewrite [if_pos (show kd (pt (pt (pt X e E) t Q) n U, J) n = 2 from hN.k)]
        rewrite [s_X2_addIn hN]
        simp only [Option.bind_some, asI_I]
        try simp only [Option.bind_some]
        rewrite [if_pos (show kd (pt (pt (pt X e E) t Q) n (gU_X2_addIn U (E 0 5) (q_X9_nameBetween Q x2 (E 0 3)) 1), J) e = 3 from hE.k)]
        rw [pt_comm (pt X e E) Q (gU_X2_addIn U (E 0 5) (q_X9_nameBetween Q x2 (E 0 3)) 1) d_QU, pt_comm X E (gU_X2_addIn U (E 0 5) (q_X9_nameBetween Q x2 (E 0 3)) 1) d_EU]
        rw [s_X3_skipBlanks hE hT d_EQ]
        rw [pt_comm X (gU_X2_addIn U (E 0 5) (q_X9_nameBetween Q x2 (E 0 3)) 1) (gE_X3_skipBlanks E Q) (Or.symm d_EU), pt_comm (pt X e (gE_X3_skipBlanks E Q)) (gU_X2_addIn U (E 0 5) (q_X9_nameBetween Q x2 (E 0 3)) 1) Q (Or.symm d_QU)]
        simp only [Option.bind_some, asV_n]
        try rewrite [fI_ok 3 hE.k]
        try rewrite [Option.bind_some]
        try rewrite [pt_out (x := e) (a := n) (by have := d_EU; omega)]
        try rewrite [pt_out (x := e) (a := t) (by have := d_EQ; omega)]
        try rewrite [p1_0]
        try simp only [Option.bind_some]
        rewrite [if_pos (show kd (pt (pt (pt X e (gE_X3_skipBlanks E Q)) t Q) n (gU_X2_addIn U (E 0 5) (q_X9_nameBetween Q x2 (E 0 3)) 1), J) t = 5 from hT.k)]
        rw [pt_comm (pt X e (gE_X3_skipBlanks E Q)) Q (gU_X2_addIn U (E 0 5) (q_X9_nameBetween Q x2 (E 0 3)) 1) d_QU]
        rw [s_X5_at hT]
        rw [pt_comm (pt X e (gE_X3_skipBlanks E Q)) (gU_X2_addIn U (E 0 5) (q_X9_nameBetween Q x2 (E 0 3)) 1) Q (Or.symm d_QU)]
        simp only [Option.bind_some, asI_I]
        by_cases h8 : (q_X5_at Q ((gE_X3_skipBlanks E Q) 0 3)) = 123
        · rewrite [if_pos h8]; simp only [if_pos h8] at hR
          try simp only [Option.bind_some]
          rewrite [if_pos (show kd (pt (pt (pt X e (gE_X3_skipBlanks E Q)) t Q) n (gU_X2_addIn U (E 0 5) (q_X9_nameBetween Q x2 (E 0 3)) 1), J) e = 3 from hE.k)]
          rw [pt_comm X (gE_X3_skipBlanks E Q) Q d_EQ]
          rw [s_X3_openFolder hE hN d_EU]
          rw [pt_comm X Q (gE_X3_openFolder (gE_X3_skipBlanks E Q) (gU_X2_addIn U (E 0 5) (q_X9_nameBetween Q x2 (E 0 3)) 1) (q_X2_addIn U (E 0 5) (q_X9_nameBetween Q x2 (E 0 3)) 1)) (Or.symm d_EQ)]
          simp only [Option.bind_some, asI_I]
          by_cases h9 : (q_X3_openFolder (gE_X3_skipBlanks E Q) (gU_X2_addIn U (E 0 5) (q_X9_nameBetween Q x2 (E 0 3)) 1) (q_X2_addIn U (E 0 5) (q_X9_nameBetween Q x2 (E 0 3)) 1)) = 0
          · rewrite [if_pos h9]; simp only [if_pos h9] at hR
            first | exact hR | (simp only [if_pos (show (0 : Int32) = 0 ∨ (0 : Int32) = 1 by decide), if_pos (show (1 : Int32) = 0 ∨ (1 : Int32) = 1 by decide)]; exact hR) | (simp; exact hR)
          · rewrite [if_neg h9]; simp only [if_neg h9] at hR
            first | exact hR | (simp only [if_pos (show (0 : Int32) = 0 ∨ (0 : Int32) = 1 by decide), if_pos (show (1 : Int32) = 0 ∨ (1 : Int32) = 1 by decide)]; exact hR) | (simp; exact hR)
        · rewrite [if_neg h8]; simp only [if_neg h8] at hR
          first | exact hR | (simp only [if_pos (show (0 : Int32) = 0 ∨ (0 : Int32) = 1 by decide), if_pos (show (1 : Int32) = 0 ∨ (1 : Int32) = 1 by decide)]; exact hR) | (simp; exact hR)
      · rewrite [if_neg h7]; simp only [if_neg h7] at hR
        try simp only [Option.bind_some]
        rewrite [if_pos (show kd (pt (pt (pt X e E) t Q) n U, J) e = 3 from hE.k)]
        rw [pt_comm X E Q d_EQ, pt_comm (pt X t Q) E U d_EU]
        rw [s_X3_fail hE]
        rw [pt_comm (pt X t Q) U (gE_X3_fail E 3 x2) (Or.symm d_EU), pt_comm X Q (gE_X3_fail E 3 x2) (Or.symm d_EQ)]
        simp only [Option.bind_some, asI_I]
        try rewrite [if_pos (z_X3_fail ..)]
        exact hR
    · rewrite [if_neg h6]; simp only [if_neg h6] at hR
      try rewrite [fI_ok 3 hE.k]
      try rewrite [Option.bind_some]
      try rewrite [pt_out (x := e) (a := n) (by have := d_EU; omega)]
      try rewrite [pt_out (x := e) (a := t) (by have := d_EQ; omega)]
      try rewrite [p1_0]
      try rewrite [wI_ok 3 _ hE.k]
      try rewrite [Option.bind_some]
      try rewrite [up_out (x := e) (a := n) (by have := d_EU; omega)]
      try rewrite [up_out (x := e) (a := t) (by have := d_EQ; omega)]
      try rewrite [u1_0]
      exact hR
def q_X3_readOutside (E : OneV) (U : NodV) (x1 : Int32) : Int32 := (if x1 = ((-1)) then (if (U 0 6) = 0 then (if (q_X3_fail E 1 (E 0 3)) = 0 then 0 else 1) else 0) else (if (U 0 6) < 3 then (if x1 = 59 then (if (40 : Int32) ≤ (U 0 5) then q_X3_fail E 5 (E 0 3) else (if (q_X2_addVolume U) = 0 then q_X3_fail E 5 (E 0 3) else 1)) else (if (q_X9_isLetter x1) = 0 then q_X3_fail E 1 (E 0 3) else (if (40 : Int32) ≤ (U 0 5) then q_X3_fail E 5 (E 0 3) else (if (q_X2_addVolume U) = 0 then q_X3_fail E 5 (E 0 3) else 1)))) else q_X3_fail E 5 (E 0 3)))
def gE_X3_readOutside (E : OneV) (U : NodV) (x1 : Int32) : OneV := (if x1 = ((-1)) then (if (U 0 6) = 0 then (if (q_X3_fail E 1 (E 0 3)) = 0 then gE_X3_fail E 1 (E 0 3) else gE_X3_fail E 1 (E 0 3)) else E) else (if (U 0 6) < 3 then (if x1 = 59 then (if (40 : Int32) ≤ (U 0 5) then gE_X3_fail E 5 (E 0 3) else (if (q_X2_addVolume U) = 0 then gE_X3_fail E 5 (E 0 3) else uv (uv E 0 5 (q_X2_rootOf (gU_X2_addVolume U) (((gU_X2_addVolume U) 0 6) - 1))) 0 6 1)) else (if (q_X9_isLetter x1) = 0 then gE_X3_fail E 1 (E 0 3) else (if (40 : Int32) ≤ (U 0 5) then gE_X3_fail E 5 (E 0 3) else (if (q_X2_addVolume U) = 0 then gE_X3_fail E 5 (E 0 3) else uv (uv E 0 5 (q_X2_rootOf (gU_X2_addVolume U) (((gU_X2_addVolume U) 0 6) - 1))) 0 6 1)))) else gE_X3_fail E 5 (E 0 3)))
def gU_X3_readOutside (E : OneV) (U : NodV) (x1 : Int32) : NodV := (if x1 = ((-1)) then (if (U 0 6) = 0 then (if (q_X3_fail E 1 (E 0 3)) = 0 then U else U) else U) else (if (U 0 6) < 3 then (if x1 = 59 then (if (40 : Int32) ≤ (U 0 5) then U else (if (q_X2_addVolume U) = 0 then gU_X2_addVolume U else gU_X2_addVolume U)) else (if (q_X9_isLetter x1) = 0 then U else (if (40 : Int32) ≤ (U 0 5) then U else (if (q_X2_addVolume U) = 0 then gU_X2_addVolume U else gU_X2_addVolume U)))) else U))
theorem s_X3_readOutside {J : MJ} {e n : Nat} (hE : RdrL J e n) (hN : NodL J n) (d_EU : e + 1 ≤ n ∨ n + 6 ≤ e) (X : MI) (E : OneV) (U : NodV) (x1 : Int32) : M_X3_readOutside [mR (some e), mI x1] (pt (pt X e E) n U, J) = some (some (mI (q_X3_readOutside E U x1)), (pt (pt X e (gE_X3_readOutside E U x1)) n (gU_X3_readOutside E U x1), J)) := by
  generalize hR : some (some (mI (q_X3_readOutside E U x1)), (pt (pt X e (gE_X3_readOutside E U x1)) n (gU_X3_readOutside E U x1), J)) = R
  rw [E_X3_readOutside]
  unfold q_X3_readOutside gE_X3_readOutside gU_X3_readOutside at hR
  by_cases h1 : x1 = ((-1))
  · rewrite [if_pos h1]; simp only [if_pos h1] at hR
    try rewrite [fR_ok 0 hE.k]
    try rewrite [Option.bind_some]
    try rewrite [hE.r0]
    try simp only [Option.bind_some]
    try rewrite [fI_ok 6 hN.k]
    try rewrite [Option.bind_some]
    try rewrite [p6_0]
    by_cases h2 : (U 0 6) = 0
    · rewrite [if_pos h2]; simp only [if_pos h2] at hR
      try rewrite [fI_ok 3 hE.k]
      try rewrite [Option.bind_some]
      try rewrite [pt_out (x := e) (a := n) (by have := d_EU; omega)]
      try rewrite [p1_0]
      try simp only [Option.bind_some]
      rewrite [if_pos (show kd (pt (pt X e E) n U, J) e = 3 from hE.k)]
      rw [pt_comm X E U d_EU]
      rw [s_X3_fail hE]
      rw [pt_comm X U (gE_X3_fail E 1 (E 0 3)) (Or.symm d_EU)]
      simp only [Option.bind_some, asI_I]
      by_cases h3 : (q_X3_fail E 1 (E 0 3)) = 0
      · rewrite [if_pos h3]; simp only [if_pos h3] at hR
        first | exact hR | (simp only [if_pos (show (0 : Int32) = 0 ∨ (0 : Int32) = 1 by decide), if_pos (show (1 : Int32) = 0 ∨ (1 : Int32) = 1 by decide)]; exact hR) | (simp; exact hR)
      · rewrite [if_neg h3]; simp only [if_neg h3] at hR
        first | exact hR | (simp only [if_pos (show (0 : Int32) = 0 ∨ (0 : Int32) = 1 by decide), if_pos (show (1 : Int32) = 0 ∨ (1 : Int32) = 1 by decide)]; exact hR) | (simp; exact hR)
    · rewrite [if_neg h2]; simp only [if_neg h2] at hR
      first | exact hR | (simp only [if_pos (show (0 : Int32) = 0 ∨ (0 : Int32) = 1 by decide), if_pos (show (1 : Int32) = 0 ∨ (1 : Int32) = 1 by decide)]; exact hR) | (simp; exact hR)
  · rewrite [if_neg h1]; simp only [if_neg h1] at hR
    try rewrite [fR_ok 0 hE.k]
    try rewrite [Option.bind_some]
    try rewrite [hE.r0]
    try simp only [Option.bind_some]
    try rewrite [fI_ok 6 hN.k]
    try rewrite [Option.bind_some]
    try rewrite [p6_0]
    by_cases h4 : (U 0 6) < 3
    · rewrite [if_pos h4]; simp only [if_pos h4] at hR
      by_cases h5 : x1 = 59
      · rewrite [if_pos h5]; simp only [if_pos h5] at hR
        try rewrite [fR_ok 0 hE.k]
        try rewrite [Option.bind_some]
        try rewrite [hE.r0]
        try simp only [Option.bind_some]
        try rewrite [fI_ok 5 hN.k]
        try rewrite [Option.bind_some]
        try rewrite [p6_0]
        by_cases h6 : (40 : Int32) ≤ (U 0 5)
        · rewrite [if_pos h6]; simp only [if_pos h6] at hR
          try rewrite [fI_ok 3 hE.k]
          try rewrite [Option.bind_some]
          try rewrite [pt_out (x := e) (a := n) (by have := d_EU; omega)]
          try rewrite [p1_0]
          try simp only [Option.bind_some]
          rewrite [if_pos (show kd (pt (pt X e E) n U, J) e = 3 from hE.k)]
          rw [pt_comm X E U d_EU]
          rw [s_X3_fail hE]
          rw [pt_comm X U (gE_X3_fail E 5 (E 0 3)) (Or.symm d_EU)]
          simp only [Option.bind_some, asI_I]
          try rewrite [if_pos (z_X3_fail ..)]
          exact hR
        · rewrite [if_neg h6]; simp only [if_neg h6] at hR
          try rewrite [fR_ok 0 hE.k]
          try rewrite [Option.bind_some]
          try rewrite [hE.r0]
          try simp only [Option.bind_some]
          rewrite [if_pos (show kd (pt (pt X e E) n U, J) n = 2 from hN.k)]
          rewrite [s_X2_addVolume hN]
          simp only [Option.bind_some, asI_I]
          by_cases h7 : (q_X2_addVolume U) = 0
          · rewrite [if_pos h7]; simp only [if_pos h7] at hR
            try rewrite [fI_ok 3 hE.k]
            try rewrite [Option.bind_some]
            try rewrite [pt_out (x := e) (a := n) (by have := d_EU; omega)]
            try rewrite [p1_0]
            try simp only [Option.bind_some]
            rewrite [if_pos (show kd (pt (pt X e E) n (gU_X2_addVolume U), J) e = 3 from hE.k)]
            rw [pt_comm X E (gU_X2_addVolume U) d_EU]
            rw [s_X3_fail hE]
            rw [pt_comm X (gU_X2_addVolume U) (gE_X3_fail E 5 (E 0 3)) (Or.symm d_EU)]
            simp only [Option.bind_some, asI_I]
            try rewrite [if_pos (z_X3_fail ..)]
            exact hR
          · rewrite [if_neg h7]; simp only [if_neg h7] at hR
            try rewrite [fR_ok 0 hE.k]
            try rewrite [Option.bind_some]
            try rewrite [hE.r0]
            try rewrite [fR_ok 0 hE.k]
            try rewrite [Option.bind_some]
            try rewrite [hE.r0]
            try simp only [Option.bind_some]
            try rewrite [fI_ok 6 hN.k]
            try rewrite [Option.bind_some]
            try rewrite [p6_0]
            try simp only [Option.bind_some]
            rewrite [if_pos (show kd (pt (pt X e E) n (gU_X2_addVolume U), J) n = 2 from hN.k)]
            rewrite [s_X2_rootOf hN]
            simp only [Option.bind_some, asI_I]
            try rewrite [wI_ok 5 _ hE.k]
            try rewrite [Option.bind_some]
            try rewrite [up_out (x := e) (a := n) (by have := d_EU; omega)]
            try rewrite [u1_0]
            try rewrite [wZ_ok 6 _ hE.k (by decide)]
            try rewrite [Option.bind_some]
            try rewrite [up_out (x := e) (a := n) (by have := d_EU; omega)]
            try rewrite [u1_0]
            first | exact hR | (simp only [if_pos (show (0 : Int32) = 0 ∨ (0 : Int32) = 1 by decide), if_pos (show (1 : Int32) = 0 ∨ (1 : Int32) = 1 by decide)]; exact hR) | (simp; exact hR)
      · rewrite [if_neg h5]; simp only [if_neg h5] at hR
        try simp only [Option.bind_some]
        rewrite [s_X9_isLetter ]
        simp only [Option.bind_some, asI_I]
        by_cases h8 : (q_X9_isLetter x1) = 0
        · rewrite [if_pos h8]; simp only [if_pos h8] at hR
          try rewrite [fI_ok 3 hE.k]
          try rewrite [Option.bind_some]
          try rewrite [pt_out (x := e) (a := n) (by have := d_EU; omega)]
          try rewrite [p1_0]
          try simp only [Option.bind_some]
          rewrite [if_pos (show kd (pt (pt X e E) n U, J) e = 3 from hE.k)]
          rw [pt_comm X E U d_EU]
          rw [s_X3_fail hE]
          rw [pt_comm X U (gE_X3_fail E 1 (E 0 3)) (Or.symm d_EU)]
          simp only [Option.bind_some, asI_I]
          try rewrite [if_pos (z_X3_fail ..)]
          exact hR
        · rewrite [if_neg h8]; simp only [if_neg h8] at hR
          try rewrite [fR_ok 0 hE.k]
          try rewrite [Option.bind_some]
          try rewrite [hE.r0]
          try simp only [Option.bind_some]
          try rewrite [fI_ok 5 hN.k]
          try rewrite [Option.bind_some]
          try rewrite [p6_0]
          by_cases h9 : (40 : Int32) ≤ (U 0 5)
          · rewrite [if_pos h9]; simp only [if_pos h9] at hR
            try rewrite [fI_ok 3 hE.k]
            try rewrite [Option.bind_some]
            try rewrite [pt_out (x := e) (a := n) (by have := d_EU; omega)]
            try rewrite [p1_0]
            try simp only [Option.bind_some]
            rewrite [if_pos (show kd (pt (pt X e E) n U, J) e = 3 from hE.k)]
            rw [pt_comm X E U d_EU]
            rw [s_X3_fail hE]
            rw [pt_comm X U (gE_X3_fail E 5 (E 0 3)) (Or.symm d_EU)]
            simp only [Option.bind_some, asI_I]
            try rewrite [if_pos (z_X3_fail ..)]
            exact hR
          · rewrite [if_neg h9]; simp only [if_neg h9] at hR
            try rewrite [fR_ok 0 hE.k]
            try rewrite [Option.bind_some]
            try rewrite [hE.r0]
            try simp only [Option.bind_some]
            rewrite [if_pos (show kd (pt (pt X e E) n U, J) n = 2 from hN.k)]
            rewrite [s_X2_addVolume hN]
            simp only [Option.bind_some, asI_I]
            by_cases h10 : (q_X2_addVolume U) = 0
            · rewrite [if_pos h10]; simp only [if_pos h10] at hR
              try rewrite [fI_ok 3 hE.k]
              try rewrite [Option.bind_some]
              try rewrite [pt_out (x := e) (a := n) (by have := d_EU; omega)]
              try rewrite [p1_0]
              try simp only [Option.bind_some]
              rewrite [if_pos (show kd (pt (pt X e E) n (gU_X2_addVolume U), J) e = 3 from hE.k)]
              rw [pt_comm X E (gU_X2_addVolume U) d_EU]
              rw [s_X3_fail hE]
              rw [pt_comm X (gU_X2_addVolume U) (gE_X3_fail E 5 (E 0 3)) (Or.symm d_EU)]
              simp only [Option.bind_some, asI_I]
              try rewrite [if_pos (z_X3_fail ..)]
              exact hR
            · rewrite [if_neg h10]; simp only [if_neg h10] at hR
              try rewrite [fR_ok 0 hE.k]
              try rewrite [Option.bind_some]
              try rewrite [hE.r0]
              try rewrite [fR_ok 0 hE.k]
              try rewrite [Option.bind_some]
              try rewrite [hE.r0]
              try simp only [Option.bind_some]
              try rewrite [fI_ok 6 hN.k]
              try rewrite [Option.bind_some]
              try rewrite [p6_0]
              try simp only [Option.bind_some]
              rewrite [if_pos (show kd (pt (pt X e E) n (gU_X2_addVolume U), J) n = 2 from hN.k)]
              rewrite [s_X2_rootOf hN]
              simp only [Option.bind_some, asI_I]
              try rewrite [wI_ok 5 _ hE.k]
              try rewrite [Option.bind_some]
              try rewrite [up_out (x := e) (a := n) (by have := d_EU; omega)]
              try rewrite [u1_0]
              try rewrite [wZ_ok 6 _ hE.k (by decide)]
              try rewrite [Option.bind_some]
              try rewrite [up_out (x := e) (a := n) (by have := d_EU; omega)]
              try rewrite [u1_0]
              first | exact hR | (simp only [if_pos (show (0 : Int32) = 0 ∨ (0 : Int32) = 1 by decide), if_pos (show (1 : Int32) = 0 ∨ (1 : Int32) = 1 by decide)]; exact hR) | (simp; exact hR)
    · rewrite [if_neg h4]; simp only [if_neg h4] at hR
      try rewrite [fI_ok 3 hE.k]
      try rewrite [Option.bind_some]
      try rewrite [pt_out (x := e) (a := n) (by have := d_EU; omega)]
      try rewrite [p1_0]
      try simp only [Option.bind_some]
      rewrite [if_pos (show kd (pt (pt X e E) n U, J) e = 3 from hE.k)]
      rw [pt_comm X E U d_EU]
      rw [s_X3_fail hE]
      rw [pt_comm X U (gE_X3_fail E 5 (E 0 3)) (Or.symm d_EU)]
      simp only [Option.bind_some, asI_I]
      try rewrite [if_pos (z_X3_fail ..)]
      exact hR
theorem z_X3_readOutside (E : OneV) (U : NodV) (x1 : Int32) : q_X3_readOutside E U x1 = 0 ∨ q_X3_readOutside E U x1 = 1 := by
  unfold q_X3_readOutside
  by_cases k1 : x1 = ((-1))
  · simp only [if_pos k1]
    by_cases k2 : (U 0 6) = 0
    · simp only [if_pos k2]
      by_cases k3 : (q_X3_fail E 1 (E 0 3)) = 0
      · simp only [if_pos k3]
        first | exact Or.inl rfl | simp
      · simp only [if_neg k3]
        first | exact Or.inr rfl | simp
    · simp only [if_neg k2]
      first | exact Or.inl rfl | simp
  · simp only [if_neg k1]
    by_cases k2 : (U 0 6) < 3
    · simp only [if_pos k2]
      by_cases k3 : x1 = 59
      · simp only [if_pos k3]
        by_cases k4 : (40 : Int32) ≤ (U 0 5)
        · simp only [if_pos k4]
          exact z_X3_fail ..
        · simp only [if_neg k4]
          by_cases k5 : (q_X2_addVolume U) = 0
          · simp only [if_pos k5]
            exact z_X3_fail ..
          · simp only [if_neg k5]
            first | exact Or.inr rfl | simp
      · simp only [if_neg k3]
        by_cases k4 : (q_X9_isLetter x1) = 0
        · simp only [if_pos k4]
          exact z_X3_fail ..
        · simp only [if_neg k4]
          by_cases k5 : (40 : Int32) ≤ (U 0 5)
          · simp only [if_pos k5]
            exact z_X3_fail ..
          · simp only [if_neg k5]
            by_cases k6 : (q_X2_addVolume U) = 0
            · simp only [if_pos k6]
              exact z_X3_fail ..
            · simp only [if_neg k6]
              first | exact Or.inr rfl | simp
    · simp only [if_neg k2]
      exact z_X3_fail ..

section
/-! Layouts of walkers, worlds, the reader; windows of 1 and 3 cells. Written by gen/lay2.py. -/
abbrev OneV : Type := Fin 1 → Nat → Int32
abbrev TriV : Type := Fin 3 → Nat → Int32
theorem p1_0 {I : MI} {a : Nat} {V : Fin 1 → Nat → Int32} : pt I a V a = V 0 := pt_in (N := 1) 0
theorem u1_0 {I : MI} {a : Nat} {V : Fin 1 → Nat → Int32} {j : Nat} {v : Int32} : up2 (pt I a V) a j v = pt I a (uv V 0 j v) := up_pt (N := 1) I a V 0 j v
theorem c1_0 {I : MI} {a : Nat} {V : Fin 1 → Nat → Int32} {n : Nat} {f : Nat → Int32} : (fun x y => if x = a ∧ y < n then f y else pt I a V x y) = pt I a (cpv V 0 n f) := cp_pt (N := 1) I a V 0 n f
theorem p3_1 {I : MI} {a : Nat} {V : Fin 3 → Nat → Int32} : pt I a V (a + 1) = V 1 := pt_in (N := 3) 1
theorem c3_1 {I : MI} {a : Nat} {V : Fin 3 → Nat → Int32} {n : Nat} {f : Nat → Int32} : (fun x y => if x = a + 1 ∧ y < n then f y else pt I a V x y) = pt I a (cpv V 1 n f) := cp_pt (N := 3) I a V 1 n f
theorem u3_1 {I : MI} {a : Nat} {V : Fin 3 → Nat → Int32} {j : Nat} {v : Int32} : up2 (pt I a V) (a + 1) j v = pt I a (uv V 1 j v) := up_pt (N := 3) I a V 1 j v
theorem p3_2 {I : MI} {a : Nat} {V : Fin 3 → Nat → Int32} : pt I a V (a + 2) = V 2 := pt_in (N := 3) 2
theorem c3_2 {I : MI} {a : Nat} {V : Fin 3 → Nat → Int32} {n : Nat} {f : Nat → Int32} : (fun x y => if x = a + 2 ∧ y < n then f y else pt I a V x y) = pt I a (cpv V 2 n f) := cp_pt (N := 3) I a V 2 n f
theorem u3_2 {I : MI} {a : Nat} {V : Fin 3 → Nat → Int32} {j : Nat} {v : Int32} : up2 (pt I a V) (a + 2) j v = pt I a (uv V 2 j v) := up_pt (N := 3) I a V 2 j v
theorem p3_0 {I : MI} {a : Nat} {V : Fin 3 → Nat → Int32} : pt I a V a = V 0 := pt_in (N := 3) 0
theorem u3_0 {I : MI} {a : Nat} {V : Fin 3 → Nat → Int32} {j : Nat} {v : Int32} : up2 (pt I a V) a j v = pt I a (uv V 0 j v) := up_pt (N := 3) I a V 0 j v
theorem c3_0 {I : MI} {a : Nat} {V : Fin 3 → Nat → Int32} {n : Nat} {f : Nat → Int32} : (fun x y => if x = a ∧ y < n then f y else pt I a V x y) = pt I a (cpv V 0 n f) := cp_pt (N := 3) I a V 0 n f
def WalL (J : MJ) (w r b : Nat) : Prop := (jS J w).1 = 7 ∧ jR J w 0 = some r ∧ jR J w 1 = some b ∧ jR J w 2 = some (b + 1) ∧ jR J w 3 = some (b + 2)
theorem WalL.k {J : MJ} {w r b : Nat} (h : WalL J w r b) : (jS J w).1 = 7 := h.1
theorem WalL.r0 {J : MJ} {w r b : Nat} (h : WalL J w r b) : jR J w 0 = some r := h.2.1
theorem WalL.r1 {J : MJ} {w r b : Nat} (h : WalL J w r b) : jR J w 1 = some b := h.2.2.1
theorem WalL.r2 {J : MJ} {w r b : Nat} (h : WalL J w r b) : jR J w 2 = some (b + 1) := h.2.2.2.1
theorem WalL.r3 {J : MJ} {w r b : Nat} (h : WalL J w r b) : jR J w 3 = some (b + 2) := h.2.2.2.2
def BufL (J : MJ) (b : Nat) : Prop := jS J b = (11, 25) ∧ jS J (b + 1) = (11, 25) ∧ jS J (b + 2) = (11, 25)
theorem BufL.s0 {J : MJ} {b : Nat} (h : BufL J b) : jS J b = (11, 25) := h.1
theorem BufL.s1 {J : MJ} {b : Nat} (h : BufL J b) : jS J (b + 1) = (11, 25) := h.2.1
theorem BufL.s2 {J : MJ} {b : Nat} (h : BufL J b) : jS J (b + 2) = (11, 25) := h.2.2
def WorL (J : MJ) (o n m g z : Nat) : Prop := (jS J o).1 = 8 ∧ jR J o 0 = some n ∧ jR J o 1 = some m ∧ jR J o 2 = some g ∧ jR J o 3 = some z
theorem WorL.k {J : MJ} {o n m g z : Nat} (h : WorL J o n m g z) : (jS J o).1 = 8 := h.1
theorem WorL.r0 {J : MJ} {o n m g z : Nat} (h : WorL J o n m g z) : jR J o 0 = some n := h.2.1
theorem WorL.r1 {J : MJ} {o n m g z : Nat} (h : WorL J o n m g z) : jR J o 1 = some m := h.2.2.1
theorem WorL.r2 {J : MJ} {o n m g z : Nat} (h : WorL J o n m g z) : jR J o 2 = some g := h.2.2.2.1
theorem WorL.r3 {J : MJ} {o n m g z : Nat} (h : WorL J o n m g z) : jR J o 3 = some z := h.2.2.2.2
def HanL (J : MJ) (g : Nat) : Prop := jS J g = (11, 6) ∧ 0 = 0
theorem HanL.s0 {J : MJ} {g : Nat} (h : HanL J g) : jS J g = (11, 6) := h.1
theorem HanL.x {J : MJ} {g : Nat} (h : HanL J g) : 0 = 0 := h.2
def RdrL (J : MJ) (e n : Nat) : Prop := (jS J e).1 = 3 ∧ jR J e 0 = some n
theorem RdrL.k {J : MJ} {e n : Nat} (h : RdrL J e n) : (jS J e).1 = 3 := h.1
theorem RdrL.r0 {J : MJ} {e n : Nat} (h : RdrL J e n) : jR J e 0 = some n := h.2
theorem inb_pred {x : Int32} {n : Nat} {m : Int32} (hm : m.toInt = n) (h1 : 0 < x) (h2 : x ≤ m) : inb (x - 1) n := by
  have a1 := Int32.lt_iff_toInt_lt.mp h1
  have a2 := Int32.le_iff_toInt_le.mp h2
  have a0 : (0 : Int32).toInt = 0 := rfl
  rw [hm] at a2
  rw [a0] at a1
  have a3 : (x - 1).toInt = x.toInt - 1 := by
    rw [Int32.toInt_sub]
    have e1 : (1 : Int32).toInt = 1 := rfl
    rw [e1]
    have := Int32.toInt_lt x
    apply Int.bmod_eq_of_le <;> omega
  intro h
  rcases h with h | h
  · have := Int32.lt_iff_toInt_lt.mp h
    rw [a3, a0] at this
    omega
  · have e4 : (x - 1).toNatClampNeg = (x - 1).toInt.toNat := rfl
    rw [e4, a3] at h
    omega
end
section
/-! Walkers. Written by gen/run4.py. -/
def q_X7_isThrough (L : Nat) (K : OneV) (P : RouV) : Int32 := (if (K 0 8) < (P 0 1) then 0 else 1)
theorem s_X7_isThrough {J : MJ} {w r b L : Nat} (hK : WalL J w r b) (hP : RouL J r L) (d_KP : w + 1 ≤ r ∨ r + 2 ≤ w) (X : MI) (K : OneV) (P : RouV) : M_X7_isThrough [mR (some w)] (pt (pt X w K) r P, J) = some (some (mI (q_X7_isThrough L K P)), (pt (pt X w K) r P, J)) := by
  generalize hR : some (some (mI (q_X7_isThrough L K P)), (pt (pt X w K) r P, J)) = R
  rw [E_X7_isThrough]
  unfold q_X7_isThrough at hR
  try rewrite [fI_ok 8 hK.k]
  try rewrite [Option.bind_some]
  try rewrite [pt_out (x := w) (a := r) (by have := d_KP; omega)]
  try rewrite [p1_0]
  try rewrite [fR_ok 0 hK.k]
  try rewrite [Option.bind_some]
  try rewrite [hK.r0]
  try simp only [Option.bind_some]
  try rewrite [fI_ok 1 hP.k]
  try rewrite [Option.bind_some]
  try rewrite [p2_0]
  by_cases h1 : (K 0 8) < (P 0 1)
  · rewrite [if_pos h1]; simp only [if_pos h1] at hR
    first | exact hR | (simp only [if_pos (show (0 : Int32) = 0 ∨ (0 : Int32) = 1 by decide), if_pos (show (1 : Int32) = 0 ∨ (1 : Int32) = 1 by decide)]; exact hR) | (simp; exact hR)
  · rewrite [if_neg h1]; simp only [if_neg h1] at hR
    first | exact hR | (simp only [if_pos (show (0 : Int32) = 0 ∨ (0 : Int32) = 1 by decide), if_pos (show (1 : Int32) = 0 ∨ (1 : Int32) = 1 by decide)]; exact hR) | (simp; exact hR)
def q_X7_lastOfWay (K : OneV) (B : TriV) : Int32 := (if (K 0 4) ≤ 0 then (-1) else (if (25 : Int32) < (K 0 4) then (-1) else B 0 (ix ((K 0 4) - 1))))
theorem s_X7_lastOfWay {J : MJ} {w r b : Nat} (hK : WalL J w r b) (hB : BufL J b) (d_KB : w + 1 ≤ b ∨ b + 3 ≤ w) (X : MI) (K : OneV) (B : TriV) : M_X7_lastOfWay [mR (some w)] (pt (pt X w K) b B, J) = some (some (mI (q_X7_lastOfWay K B)), (pt (pt X w K) b B, J)) := by
  generalize hR : some (some (mI (q_X7_lastOfWay K B)), (pt (pt X w K) b B, J)) = R
  rw [E_X7_lastOfWay]
  unfold q_X7_lastOfWay at hR
  try rewrite [fI_ok 4 hK.k]
  try rewrite [Option.bind_some]
  try rewrite [pt_out (x := w) (a := b) (by have := d_KB; omega)]
  try rewrite [p1_0]
  by_cases h1 : (K 0 4) ≤ 0
  · rewrite [if_pos h1]; simp only [if_pos h1] at hR
    exact hR
  · rewrite [if_neg h1]; simp only [if_neg h1] at hR
    try rewrite [fI_ok 4 hK.k]
    try rewrite [Option.bind_some]
    try rewrite [pt_out (x := w) (a := b) (by have := d_KB; omega)]
    try rewrite [p1_0]
    by_cases h2 : (25 : Int32) < (K 0 4)
    · rewrite [if_pos h2]; simp only [if_pos h2] at hR
      exact hR
    · rewrite [if_neg h2]; simp only [if_neg h2] at hR
      try rewrite [fR_ok 1 hK.k]
      try rewrite [Option.bind_some]
      try rewrite [hK.r1]
      try rewrite [fI_ok 4 hK.k]
      try rewrite [Option.bind_some]
      try rewrite [pt_out (x := w) (a := b) (by have := d_KB; omega)]
      try rewrite [p1_0]
      try simp only [Option.bind_some]
      try rewrite [ld_ok _ hB.s0 (inb_pred rfl (Int32.not_le.mp h1) (Int32.not_lt.mp h2))]
      try rewrite [Option.bind_some]
      try rewrite [p3_0]
      exact hR
def q_X7_tell (L : Nat) (K : OneV) (P : RouV) (B : TriV) (x1 : Int32) : Int32 := (if x1 = 0 then (if (bz (K 0 6)) = 0 then 0 else 1) else (if x1 = 1 then K 0 7 else (if x1 = 2 then K 0 8 else (if x1 = 3 then P 0 1 else (if x1 = 4 then K 0 4 else (if x1 = 5 then q_X7_lastOfWay K B else (-1)))))))
theorem s_X7_tell {J : MJ} {w r b L : Nat} (hK : WalL J w r b) (hP : RouL J r L) (hB : BufL J b) (d_KP : w + 1 ≤ r ∨ r + 2 ≤ w) (d_KB : w + 1 ≤ b ∨ b + 3 ≤ w) (d_PB : r + 2 ≤ b ∨ b + 3 ≤ r) (X : MI) (K : OneV) (P : RouV) (B : TriV) (x1 : Int32) : M_X7_tell [mR (some w), mI x1] (pt (pt (pt X w K) r P) b B, J) = some (some (mI (q_X7_tell L K P B x1)), (pt (pt (pt X w K) r P) b B, J)) := by
  generalize hR : some (some (mI (q_X7_tell L K P B x1)), (pt (pt (pt X w K) r P) b B, J)) = R
  rw [E_X7_tell]
  unfold q_X7_tell at hR
  by_cases h1 : x1 = 0
  · rewrite [if_pos h1]; simp only [if_pos h1] at hR
    try rewrite [fZ_ok 6 hK.k]
    try rewrite [Option.bind_some]
    try rewrite [pt_out (x := w) (a := b) (by have := d_KB; omega)]
    try rewrite [pt_out (x := w) (a := r) (by have := d_KP; omega)]
    try rewrite [p1_0]
    by_cases h2 : (bz (K 0 6)) = 0
    · rewrite [if_pos h2]; simp only [if_pos h2] at hR
      exact hR
    · rewrite [if_neg h2]; simp only [if_neg h2] at hR
      exact hR
  · rewrite [if_neg h1]; simp only [if_neg h1] at hR
    by_cases h3 : x1 = 1
    · rewrite [if_pos h3]; simp only [if_pos h3] at hR
      try rewrite [fI_ok 7 hK.k]
      try rewrite [Option.bind_some]
      try rewrite [pt_out (x := w) (a := b) (by have := d_KB; omega)]
      try rewrite [pt_out (x := w) (a := r) (by have := d_KP; omega)]
      try rewrite [p1_0]
      exact hR
    · rewrite [if_neg h3]; simp only [if_neg h3] at hR
      by_cases h4 : x1 = 2
      · rewrite [if_pos h4]; simp only [if_pos h4] at hR
        try rewrite [fI_ok 8 hK.k]
        try rewrite [Option.bind_some]
        try rewrite [pt_out (x := w) (a := b) (by have := d_KB; omega)]
        try rewrite [pt_out (x := w) (a := r) (by have := d_KP; omega)]
        try rewrite [p1_0]
        exact hR
      · rewrite [if_neg h4]; simp only [if_neg h4] at hR
        by_cases h5 : x1 = 3
        · rewrite [if_pos h5]; simp only [if_pos h5] at hR
          try rewrite [fR_ok 0 hK.k]
          try rewrite [Option.bind_some]
          try rewrite [hK.r0]
          try simp only [Option.bind_some]
          try rewrite [fI_ok 1 hP.k]
          try rewrite [Option.bind_some]
          try rewrite [pt_out (x := r) (a := b) (by have := d_PB; omega)]
          try rewrite [p2_0]
          exact hR
        · rewrite [if_neg h5]; simp only [if_neg h5] at hR
          by_cases h6 : x1 = 4
          · rewrite [if_pos h6]; simp only [if_pos h6] at hR
            try rewrite [fI_ok 4 hK.k]
            try rewrite [Option.bind_some]
            try rewrite [pt_out (x := w) (a := b) (by have := d_KB; omega)]
            try rewrite [pt_out (x := w) (a := r) (by have := d_KP; omega)]
            try rewrite [p1_0]
            exact hR
          · rewrite [if_neg h6]; simp only [if_neg h6] at hR
            by_cases h7 : x1 = 5
            · rewrite [if_pos h7]; simp only [if_pos h7] at hR
              try simp only [Option.bind_some]
              rewrite [if_pos (show kd (pt (pt (pt X w K) r P) b B, J) w = 7 from hK.k)]
              rw [pt_comm X K P d_KP]
              rw [s_X7_lastOfWay hK hB d_KB]
              rw [pt_comm X P K (Or.symm d_KP)]
              simp only [Option.bind_some, asI_I]
              exact hR
            · rewrite [if_neg h7]; simp only [if_neg h7] at hR
              exact hR
theorem P_X7_isChanged {J : MJ} {w r b m n : Nat} (hK : WalL J w r b) (hB : BufL J b) (hM : MemL J m n) (d_KB : w + 1 ≤ b ∨ b + 3 ≤ w) (d_KV : w + 1 ≤ m ∨ m + 12 ≤ w) (d_BV : b + 3 ≤ m ∨ m + 12 ≤ b) (X : MI) (K : OneV) (B : TriV) (V : MemV) : M_X7_isChanged [mR (some w), mR (some m)] (pt (pt (pt X w K) b B) m V, J) = Ev T_X7_isChanged 2 [some (mR (some w)), some (mR (some m)), some (mI 0), none] [] (pt (pt (pt X w K) b B) m V, J) := by
  generalize hR : Ev T_X7_isChanged 2 [some (mR (some w)), some (mR (some m)), some (mI 0), none] [] (pt (pt (pt X w K) b B) m V, J) = R
  rw [E_X7_isChanged]
  exact hR
theorem P_X7_isChanged_2 {J : MJ} {w r b m n : Nat} (hK : WalL J w r b) (hB : BufL J b) (hM : MemL J m n) (d_KB : w + 1 ≤ b ∨ b + 3 ≤ w) (d_KV : w + 1 ≤ m ∨ m + 12 ≤ w) (d_BV : b + 3 ≤ m ∨ m + 12 ≤ b) (X : MI) (K : OneV) (B : TriV) (V : MemV) (x2 : Int32) (h_x2 : ¬ x2 < 0) : Ev T_X7_isChanged 2 [some (mR (some w)), some (mR (some m)), some (mI x2), none] [] (pt (pt (pt X w K) b B) m V, J) = (if (K 0 4) ≤ x2 then some (some (mI 0), (pt (pt (pt X w K) b B) m V, J)) else (if (25 : Int32) ≤ x2 then some (some (mI 0), (pt (pt (pt X w K) b B) m V, J)) else (if (q_X1_isEntry V (B 0 (ix x2))) = 0 then some (some (mI 1), (pt (pt (pt X w K) b B) m V, J)) else (if (V 8 (ix (B 0 (ix x2)))) = (B 1 (ix x2)) then (if (V 6 (ix (B 0 (ix x2)))) = (B 2 (ix x2)) then Ev T_X7_isChanged 2 [some (mR (some w)), some (mR (some m)), some (mI (x2 + 1)), none] [] (pt (pt (pt X w K) b B) m V, J) else some (some (mI 1), (pt (pt (pt X w K) b B) m V, J))) else some (some (mI 1), (pt (pt (pt X w K) b B) m V, J)))))) := by
  generalize hR : (if (K 0 4) ≤ x2 then some (some (mI 0), (pt (pt (pt X w K) b B) m V, J)) else (if (25 : Int32) ≤ x2 then some (some (mI 0), (pt (pt (pt X w K) b B) m V, J)) else (if (q_X1_isEntry V (B 0 (ix x2))) = 0 then some (some (mI 1), (pt (pt (pt X w K) b B) m V, J)) else (if (V 8 (ix (B 0 (ix x2)))) = (B 1 (ix x2)) then (if (V 6 (ix (B 0 (ix x2)))) = (B 2 (ix x2)) then Ev T_X7_isChanged 2 [some (mR (some w)), some (mR (some m)), some (mI (x2 + 1)), none] [] (pt (pt (pt X w K) b B) m V, J) else some (some (mI 1), (pt (pt (pt X w K) b B) m V, J))) else some (some (mI 1), (pt (pt (pt X w K) b B) m V, J)))))) = R
  rw [E_X7_isChanged_2]
  try rewrite [fI_ok 4 hK.k]
  try rewrite [Option.bind_some]
  try rewrite [pt_out (x := w) (a := m) (by have := d_KV; omega)]
  try rewrite [pt_out (x := w) (a := b) (by have := d_KB; omega)]
  try rewrite [p1_0]
  by_cases h1 : (K 0 4) ≤ x2
  · rewrite [if_pos h1]; simp only [if_pos h1] at hR
    first | exact hR | (simp only [if_pos (show (0 : Int32) = 0 ∨ (0 : Int32) = 1 by decide), if_pos (show (1 : Int32) = 0 ∨ (1 : Int32) = 1 by decide)]; exact hR) | (simp; exact hR)
  · rewrite [if_neg h1]; simp only [if_neg h1] at hR
    by_cases h2 : (25 : Int32) ≤ x2
    · rewrite [if_pos h2]; simp only [if_pos h2] at hR
      first | exact hR | (simp only [if_pos (show (0 : Int32) = 0 ∨ (0 : Int32) = 1 by decide), if_pos (show (1 : Int32) = 0 ∨ (1 : Int32) = 1 by decide)]; exact hR) | (simp; exact hR)
    · rewrite [if_neg h2]; simp only [if_neg h2] at hR
      try rewrite [fR_ok 1 hK.k]
      try rewrite [Option.bind_some]
      try rewrite [hK.r1]
      try simp only [Option.bind_some]
      try rewrite [ld_ok _ hB.s0 (inb_of rfl h_x2 h2)]
      try rewrite [Option.bind_some]
      try rewrite [pt_out (x := b) (a := m) (by have := d_BV; omega)]
      try rewrite [p3_0]
      try simp only [Option.bind_some]
      rewrite [if_pos (show kd (pt (pt (pt X w K) b B) m V, J) m = 1 from hM.k)]
      rewrite [s_X1_isEntry hM]
      simp only [Option.bind_some, asI_I]
      by_cases h3 : (q_X1_isEntry V (B 0 (ix x2))) = 0
      · rewrite [if_pos h3]; simp only [if_pos h3] at hR
        first | exact hR | (simp only [if_pos (show (0 : Int32) = 0 ∨ (0 : Int32) = 1 by decide), if_pos (show (1 : Int32) = 0 ∨ (1 : Int32) = 1 by decide)]; exact hR) | (simp; exact hR)
      · rewrite [if_neg h3]; simp only [if_neg h3] at hR
        try rewrite [fR_ok 8 hM.k]
        try rewrite [Option.bind_some]
        try rewrite [hM.r8]
        try simp only [Option.bind_some]
        try rewrite [ld_ok _ hM.s8 (b_X1_isEntry_0 h3)]
        try rewrite [Option.bind_some]
        try rewrite [p12_8]
        try rewrite [fR_ok 2 hK.k]
        try rewrite [Option.bind_some]
        try rewrite [hK.r2]
        try simp only [Option.bind_some]
        try rewrite [ld_ok _ hB.s1 (inb_of rfl h_x2 h2)]
        try rewrite [Option.bind_some]
        try rewrite [pt_out (x := b + 1) (a := m) (by have := d_BV; omega)]
        try rewrite [p3_1]
        by_cases h4 : (V 8 (ix (B 0 (ix x2)))) = (B 1 (ix x2))
        · rewrite [if_pos h4]; simp only [if_pos h4] at hR
          try rewrite [fR_ok 6 hM.k]
          try rewrite [Option.bind_some]
          try rewrite [hM.r6]
          try simp only [Option.bind_some]
          try rewrite [ld_ok _ hM.s6 (b_X1_isEntry_0 h3)]
          try rewrite [Option.bind_some]
          try rewrite [p12_6]
          try rewrite [fR_ok 3 hK.k]
          try rewrite [Option.bind_some]
          try rewrite [hK.r3]
          try simp only [Option.bind_some]
          try rewrite [ld_ok _ hB.s2 (inb_of rfl h_x2 h2)]
          try rewrite [Option.bind_some]
          try rewrite [pt_out (x := b + 2) (a := m) (by have := d_BV; omega)]
          try rewrite [p3_2]
          by_cases h5 : (V 6 (ix (B 0 (ix x2)))) = (B 2 (ix x2))
          · rewrite [if_pos h5]; simp only [if_pos h5] at hR
            exact hR
          · rewrite [if_neg h5]; simp only [if_neg h5] at hR
            first | exact hR | (simp only [if_pos (show (0 : Int32) = 0 ∨ (0 : Int32) = 1 by decide), if_pos (show (1 : Int32) = 0 ∨ (1 : Int32) = 1 by decide)]; exact hR) | (simp; exact hR)
        · rewrite [if_neg h4]; simp only [if_neg h4] at hR
          first | exact hR | (simp only [if_pos (show (0 : Int32) = 0 ∨ (0 : Int32) = 1 by decide), if_pos (show (1 : Int32) = 0 ∨ (1 : Int32) = 1 by decide)]; exact hR) | (simp; exact hR)
def lp_X7_isChanged_2 (K : OneV) (B : TriV) (V : MemV) : Nat → Nat → Int32
  | 0, k => (if (K 0 4) ≤ (nI k) then (0) else (0))
  | nn + 1, k => (if (K 0 4) ≤ (nI k) then (0) else (if (q_X1_isEntry V (B 0 k)) = 0 then (1) else (if (V 8 (ix (B 0 k))) = (B 1 k) then (if (V 6 (ix (B 0 k))) = (B 2 k) then lp_X7_isChanged_2 K B V nn (k + 1)  else (1)) else (1))))
theorem lr_X7_isChanged_2 {J : MJ} {w r b m n : Nat} (hK : WalL J w r b) (hB : BufL J b) (hM : MemL J m n) (d_KB : w + 1 ≤ b ∨ b + 3 ≤ w) (d_KV : w + 1 ≤ m ∨ m + 12 ≤ w) (d_BV : b + 3 ≤ m ∨ m + 12 ≤ b) (X : MI) (K : OneV) (B : TriV) (V : MemV) : ∀ (nn k : Nat) , k + nn = 25 → Ev T_X7_isChanged 2 [some (mR (some w)), some (mR (some m)), some (mI (nI k)), none] [] (pt (pt (pt X w K) b B) m V, J) = some (some (mI ((lp_X7_isChanged_2 K B V nn k ))), (pt (pt (pt X w K) b B) m V, J)) := by
  intro nn
  induction nn with
  | zero =>
    intro k  hk
    have hk : k = 25 := by omega
    subst hk
    generalize hR : some (some (mI ((lp_X7_isChanged_2 K B V 0 25 ))), (pt (pt (pt X w K) b B) m V, J)) = R
    rw [lp_X7_isChanged_2] at hR
    rw [P_X7_isChanged_2 hK hB hM d_KB d_KV d_BV _ _ _ _ _ (nI_pos (by omega))]
    by_cases k1 : (K 0 4) ≤ (nI 25)
    · rewrite [if_pos k1]; simp only [if_pos k1] at hR
      exact hR
    · rewrite [if_neg k1]; simp only [if_neg k1] at hR
      rewrite [if_pos (show (25 : Int32) ≤ nI 25 from Int32.le_refl _)]
      exact hR
  | succ nn ih =>
    intro k  hk
    generalize hR : some (some (mI ((lp_X7_isChanged_2 K B V (nn + 1) k ))), (pt (pt (pt X w K) b B) m V, J)) = R
    rw [lp_X7_isChanged_2] at hR
    rw [P_X7_isChanged_2 hK hB hM d_KB d_KV d_BV _ _ _ _ _ (nI_pos (by omega))]
    try rw [ix_nI (by omega)]
    rw [nI_1 k]
    by_cases k1 : (K 0 4) ≤ (nI k)
    · rewrite [if_pos k1]; simp only [if_pos k1] at hR
      exact hR
    · rewrite [if_neg k1]; simp only [if_neg k1] at hR
      rewrite [if_neg (show ¬ (25 : Int32) ≤ nI k from nI_ge (show k < 25 by omega) (by decide))]
      by_cases k2 : (q_X1_isEntry V (B 0 k)) = 0
      · rewrite [if_pos k2]; simp only [if_pos k2] at hR
        exact hR
      · rewrite [if_neg k2]; simp only [if_neg k2] at hR
        by_cases k3 : (V 8 (ix (B 0 k))) = (B 1 k)
        · rewrite [if_pos k3]; simp only [if_pos k3] at hR
          by_cases k4 : (V 6 (ix (B 0 k))) = (B 2 k)
          · rewrite [if_pos k4]; simp only [if_pos k4] at hR
            exact (ih (k + 1)  (by omega)).trans hR
          · rewrite [if_neg k4]; simp only [if_neg k4] at hR
            exact hR
        · rewrite [if_neg k3]; simp only [if_neg k3] at hR
          exact hR
def o_X7_isChanged (K : OneV) (B : TriV) (V : MemV)  : Int32 := lp_X7_isChanged_2 K B V 25 0 
def q_X7_isChanged (K : OneV) (B : TriV) (V : MemV)  : Int32 := (o_X7_isChanged K B V)
theorem s_X7_isChanged {J : MJ} {w r b m n : Nat} (hK : WalL J w r b) (hB : BufL J b) (hM : MemL J m n) (d_KB : w + 1 ≤ b ∨ b + 3 ≤ w) (d_KV : w + 1 ≤ m ∨ m + 12 ≤ w) (d_BV : b + 3 ≤ m ∨ m + 12 ≤ b) (X : MI) (K : OneV) (B : TriV) (V : MemV)  : M_X7_isChanged [mR (some w), mR (some m)] (pt (pt (pt X w K) b B) m V, J) = some (some (mI (q_X7_isChanged K B V)), (pt (pt (pt X w K) b B) m V, J)) := by
  generalize hR : some (some (mI (q_X7_isChanged K B V)), (pt (pt (pt X w K) b B) m V, J)) = R
  rw [P_X7_isChanged hK hB hM d_KB d_KV d_BV]
  unfold q_X7_isChanged o_X7_isChanged at hR
  have z := lr_X7_isChanged_2 hK hB hM d_KB d_KV d_BV X K B V 25 0  (Nat.zero_add _)
  rw [show nI 0 = 0 from rfl] at z
  rw [z]
  rw [← hR]
theorem P_X7_holdAll {J : MJ} {w r b m n : Nat} (hK : WalL J w r b) (hB : BufL J b) (hM : MemL J m n) (d_KB : w + 1 ≤ b ∨ b + 3 ≤ w) (d_KV : w + 1 ≤ m ∨ m + 12 ≤ w) (d_BV : b + 3 ≤ m ∨ m + 12 ≤ b) (X : MI) (K : OneV) (B : TriV) (V : MemV) : M_X7_holdAll [mR (some w), mR (some m)] (pt (pt (pt X w K) b B) m V, J) = Ev T_X7_holdAll 2 [some (mR (some w)), some (mR (some m)), some (mI 0)] [] (pt (pt (pt X w K) b B) m V, J) := by
  generalize hR : Ev T_X7_holdAll 2 [some (mR (some w)), some (mR (some m)), some (mI 0)] [] (pt (pt (pt X w K) b B) m V, J) = R
  rw [E_X7_holdAll]
  exact hR
theorem P_X7_holdAll_2 {J : MJ} {w r b m n : Nat} (hK : WalL J w r b) (hB : BufL J b) (hM : MemL J m n) (d_KB : w + 1 ≤ b ∨ b + 3 ≤ w) (d_KV : w + 1 ≤ m ∨ m + 12 ≤ w) (d_BV : b + 3 ≤ m ∨ m + 12 ≤ b) (X : MI) (K : OneV) (B : TriV) (V : MemV) (x2 : Int32) (h_x2 : ¬ x2 < 0) : Ev T_X7_holdAll 2 [some (mR (some w)), some (mR (some m)), some (mI x2)] [] (pt (pt (pt X w K) b B) m V, J) = (if (K 0 4) ≤ x2 then some (none, (pt (pt (pt X w K) b B) m V, J)) else (if (25 : Int32) ≤ x2 then some (none, (pt (pt (pt X w K) b B) m V, J)) else Ev T_X7_holdAll 2 [some (mR (some w)), some (mR (some m)), some (mI (x2 + 1))] [] (pt (pt (pt X w K) b B) m (gV_X1_hold V (B 0 (ix x2))), J))) := by
  generalize hR : (if (K 0 4) ≤ x2 then some (none, (pt (pt (pt X w K) b B) m V, J)) else (if (25 : Int32) ≤ x2 then some (none, (pt (pt (pt X w K) b B) m V, J)) else Ev T_X7_holdAll 2 [some (mR (some w)), some (mR (some m)), some (mI (x2 + 1))] [] (pt (pt (pt X w K) b B) m (gV_X1_hold V (B 0 (ix x2))), J))) = R
  rw [E_X7_holdAll_2]
  try rewrite [fI_ok 4 hK.k]
  try rewrite [Option.bind_some]
  try rewrite [pt_out (x := w) (a := m) (by have := d_KV; omega)]
  try rewrite [pt_out (x := w) (a := b) (by have := d_KB; omega)]
  try rewrite [p1_0]
  by_cases h1 : (K 0 4) ≤ x2
  · rewrite [if_pos h1]; simp only [if_pos h1] at hR
    exact hR
  · rewrite [if_neg h1]; simp only [if_neg h1] at hR
    by_cases h2 : (25 : Int32) ≤ x2
    · rewrite [if_pos h2]; simp only [if_pos h2] at hR
      exact hR
    · rewrite [if_neg h2]; simp only [if_neg h2] at hR
      try rewrite [fR_ok 1 hK.k]
      try rewrite [Option.bind_some]
      try rewrite [hK.r1]
      try simp only [Option.bind_some]
      try rewrite [ld_ok _ hB.s0 (inb_of rfl h_x2 h2)]
      try rewrite [Option.bind_some]
      try rewrite [pt_out (x := b) (a := m) (by have := d_BV; omega)]
      try rewrite [p3_0]
      try simp only [Option.bind_some]
      rewrite [if_pos (show kd (pt (pt (pt X w K) b B) m V, J) m = 1 from hM.k)]
      rewrite [s_X1_hold hM]
      simp only [Option.bind_some, asV_n]
      exact hR
def lp_X7_holdAll_2 (K : OneV) (B : TriV) : Nat → Nat → MemV → MemV
  | 0, k, V => (if (K 0 4) ≤ (nI k) then (V) else (V))
  | nn + 1, k, V => (if (K 0 4) ≤ (nI k) then (V) else lp_X7_holdAll_2 K B nn (k + 1) (gV_X1_hold V (B 0 k)))
theorem lr_X7_holdAll_2 {J : MJ} {w r b m n : Nat} (hK : WalL J w r b) (hB : BufL J b) (hM : MemL J m n) (d_KB : w + 1 ≤ b ∨ b + 3 ≤ w) (d_KV : w + 1 ≤ m ∨ m + 12 ≤ w) (d_BV : b + 3 ≤ m ∨ m + 12 ≤ b) (X : MI) (K : OneV) (B : TriV) : ∀ (nn k : Nat) (V : MemV), k + nn = 25 → Ev T_X7_holdAll 2 [some (mR (some w)), some (mR (some m)), some (mI (nI k))] [] (pt (pt (pt X w K) b B) m V, J) = some (none, (pt (pt (pt X w K) b B) m ((lp_X7_holdAll_2 K B nn k V)), J)) := by
  intro nn
  induction nn with
  | zero =>
    intro k V hk
    have hk : k = 25 := by omega
    subst hk
    generalize hR : some (none, (pt (pt (pt X w K) b B) m ((lp_X7_holdAll_2 K B 0 25 V)), J)) = R
    rw [lp_X7_holdAll_2] at hR
    rw [P_X7_holdAll_2 hK hB hM d_KB d_KV d_BV _ _ _ _ _ (nI_pos (by omega))]
    by_cases k1 : (K 0 4) ≤ (nI 25)
    · rewrite [if_pos k1]; simp only [if_pos k1] at hR
      exact hR
    · rewrite [if_neg k1]; simp only [if_neg k1] at hR
      rewrite [if_pos (show (25 : Int32) ≤ nI 25 from Int32.le_refl _)]
      exact hR
  | succ nn ih =>
    intro k V hk
    generalize hR : some (none, (pt (pt (pt X w K) b B) m ((lp_X7_holdAll_2 K B (nn + 1) k V)), J)) = R
    rw [lp_X7_holdAll_2] at hR
    rw [P_X7_holdAll_2 hK hB hM d_KB d_KV d_BV _ _ _ _ _ (nI_pos (by omega))]
    try rw [ix_nI (by omega)]
    rw [nI_1 k]
    by_cases k1 : (K 0 4) ≤ (nI k)
    · rewrite [if_pos k1]; simp only [if_pos k1] at hR
      exact hR
    · rewrite [if_neg k1]; simp only [if_neg k1] at hR
      rewrite [if_neg (show ¬ (25 : Int32) ≤ nI k from nI_ge (show k < 25 by omega) (by decide))]
      exact (ih (k + 1) _ (by omega)).trans hR
def o_X7_holdAll (K : OneV) (B : TriV) (V : MemV)  : MemV := lp_X7_holdAll_2 K B 25 0 V
def gV_X7_holdAll (K : OneV) (B : TriV) (V : MemV)  : MemV := (o_X7_holdAll K B V)
theorem s_X7_holdAll {J : MJ} {w r b m n : Nat} (hK : WalL J w r b) (hB : BufL J b) (hM : MemL J m n) (d_KB : w + 1 ≤ b ∨ b + 3 ≤ w) (d_KV : w + 1 ≤ m ∨ m + 12 ≤ w) (d_BV : b + 3 ≤ m ∨ m + 12 ≤ b) (X : MI) (K : OneV) (B : TriV) (V : MemV)  : M_X7_holdAll [mR (some w), mR (some m)] (pt (pt (pt X w K) b B) m V, J) = some (none, (pt (pt (pt X w K) b B) m ((gV_X7_holdAll K B V)), J)) := by
  generalize hR : some (none, (pt (pt (pt X w K) b B) m ((gV_X7_holdAll K B V)), J)) = R
  rw [P_X7_holdAll hK hB hM d_KB d_KV d_BV]
  unfold gV_X7_holdAll o_X7_holdAll at hR
  have z := lr_X7_holdAll_2 hK hB hM d_KB d_KV d_BV X K B 25 0 V (Nat.zero_add _)
  rw [show nI 0 = 0 from rfl] at z
  rw [z]
  rw [← hR]
theorem P_X7_letGo {J : MJ} {w r b m n : Nat} (hK : WalL J w r b) (hB : BufL J b) (hM : MemL J m n) (d_KB : w + 1 ≤ b ∨ b + 3 ≤ w) (d_KV : w + 1 ≤ m ∨ m + 12 ≤ w) (d_BV : b + 3 ≤ m ∨ m + 12 ≤ b) (X : MI) (K : OneV) (B : TriV) (V : MemV) : M_X7_letGo [mR (some w), mR (some m)] (pt (pt (pt X w K) b B) m V, J) = Ev T_X7_letGo 2 [some (mR (some w)), some (mR (some m)), some (mI 0)] [] (pt (pt (pt X w K) b B) m V, J) := by
  generalize hR : Ev T_X7_letGo 2 [some (mR (some w)), some (mR (some m)), some (mI 0)] [] (pt (pt (pt X w K) b B) m V, J) = R
  rw [E_X7_letGo]
  exact hR
theorem P_X7_letGo_2 {J : MJ} {w r b m n : Nat} (hK : WalL J w r b) (hB : BufL J b) (hM : MemL J m n) (d_KB : w + 1 ≤ b ∨ b + 3 ≤ w) (d_KV : w + 1 ≤ m ∨ m + 12 ≤ w) (d_BV : b + 3 ≤ m ∨ m + 12 ≤ b) (X : MI) (K : OneV) (B : TriV) (V : MemV) (x2 : Int32) (h_x2 : ¬ x2 < 0) : Ev T_X7_letGo 2 [some (mR (some w)), some (mR (some m)), some (mI x2)] [] (pt (pt (pt X w K) b B) m V, J) = (if (bz (K 0 6)) = 0 then some (none, (pt (pt (pt X w K) b B) m V, J)) else (if (K 0 4) ≤ x2 then some (none, (pt (pt (pt X w K) b B) m V, J)) else (if (25 : Int32) ≤ x2 then some (none, (pt (pt (pt X w K) b B) m V, J)) else Ev T_X7_letGo 2 [some (mR (some w)), some (mR (some m)), some (mI (x2 + 1))] [] (pt (pt (pt X w K) b B) m (gV_X1_release V (B 0 (ix x2))), J)))) := by
  generalize hR : (if (bz (K 0 6)) = 0 then some (none, (pt (pt (pt X w K) b B) m V, J)) else (if (K 0 4) ≤ x2 then some (none, (pt (pt (pt X w K) b B) m V, J)) else (if (25 : Int32) ≤ x2 then some (none, (pt (pt (pt X w K) b B) m V, J)) else Ev T_X7_letGo 2 [some (mR (some w)), some (mR (some m)), some (mI (x2 + 1))] [] (pt (pt (pt X w K) b B) m (gV_X1_release V (B 0 (ix x2))), J)))) = R
  rw [E_X7_letGo_2]
  try rewrite [fZ_ok 6 hK.k]
  try rewrite [Option.bind_some]
  try rewrite [pt_out (x := w) (a := m) (by have := d_KV; omega)]
  try rewrite [pt_out (x := w) (a := b) (by have := d_KB; omega)]
  try rewrite [p1_0]
  by_cases h1 : (bz (K 0 6)) = 0
  · rewrite [if_pos h1]; simp only [if_pos h1] at hR
    exact hR
  · rewrite [if_neg h1]; simp only [if_neg h1] at hR
    try rewrite [fI_ok 4 hK.k]
    try rewrite [Option.bind_some]
    try rewrite [pt_out (x := w) (a := m) (by have := d_KV; omega)]
    try rewrite [pt_out (x := w) (a := b) (by have := d_KB; omega)]
    try rewrite [p1_0]
    by_cases h2 : (K 0 4) ≤ x2
    · rewrite [if_pos h2]; simp only [if_pos h2] at hR
      exact hR
    · rewrite [if_neg h2]; simp only [if_neg h2] at hR
      by_cases h3 : (25 : Int32) ≤ x2
      · rewrite [if_pos h3]; simp only [if_pos h3] at hR
        exact hR
      · rewrite [if_neg h3]; simp only [if_neg h3] at hR
        try rewrite [fR_ok 1 hK.k]
        try rewrite [Option.bind_some]
        try rewrite [hK.r1]
        try simp only [Option.bind_some]
        try rewrite [ld_ok _ hB.s0 (inb_of rfl h_x2 h3)]
        try rewrite [Option.bind_some]
        try rewrite [pt_out (x := b) (a := m) (by have := d_BV; omega)]
        try rewrite [p3_0]
        try simp only [Option.bind_some]
        rewrite [if_pos (show kd (pt (pt (pt X w K) b B) m V, J) m = 1 from hM.k)]
        rewrite [s_X1_release hM]
        simp only [Option.bind_some, asV_n]
        exact hR
def lp_X7_letGo_2 (K : OneV) (B : TriV) : Nat → Nat → MemV → MemV
  | 0, k, V => (if (bz (K 0 6)) = 0 then (V) else (if (K 0 4) ≤ (nI k) then (V) else (V)))
  | nn + 1, k, V => (if (bz (K 0 6)) = 0 then (V) else (if (K 0 4) ≤ (nI k) then (V) else lp_X7_letGo_2 K B nn (k + 1) (gV_X1_release V (B 0 k))))
theorem lr_X7_letGo_2 {J : MJ} {w r b m n : Nat} (hK : WalL J w r b) (hB : BufL J b) (hM : MemL J m n) (d_KB : w + 1 ≤ b ∨ b + 3 ≤ w) (d_KV : w + 1 ≤ m ∨ m + 12 ≤ w) (d_BV : b + 3 ≤ m ∨ m + 12 ≤ b) (X : MI) (K : OneV) (B : TriV) : ∀ (nn k : Nat) (V : MemV), k + nn = 25 → Ev T_X7_letGo 2 [some (mR (some w)), some (mR (some m)), some (mI (nI k))] [] (pt (pt (pt X w K) b B) m V, J) = some (none, (pt (pt (pt X w K) b B) m ((lp_X7_letGo_2 K B nn k V)), J)) := by
  intro nn
  induction nn with
  | zero =>
    intro k V hk
    have hk : k = 25 := by omega
    subst hk
    generalize hR : some (none, (pt (pt (pt X w K) b B) m ((lp_X7_letGo_2 K B 0 25 V)), J)) = R
    rw [lp_X7_letGo_2] at hR
    rw [P_X7_letGo_2 hK hB hM d_KB d_KV d_BV _ _ _ _ _ (nI_pos (by omega))]
    by_cases k1 : (bz (K 0 6)) = 0
    · rewrite [if_pos k1]; simp only [if_pos k1] at hR
      exact hR
    · rewrite [if_neg k1]; simp only [if_neg k1] at hR
      by_cases k2 : (K 0 4) ≤ (nI 25)
      · rewrite [if_pos k2]; simp only [if_pos k2] at hR
        exact hR
      · rewrite [if_neg k2]; simp only [if_neg k2] at hR
        rewrite [if_pos (show (25 : Int32) ≤ nI 25 from Int32.le_refl _)]
        exact hR
  | succ nn ih =>
    intro k V hk
    generalize hR : some (none, (pt (pt (pt X w K) b B) m ((lp_X7_letGo_2 K B (nn + 1) k V)), J)) = R
    rw [lp_X7_letGo_2] at hR
    rw [P_X7_letGo_2 hK hB hM d_KB d_KV d_BV _ _ _ _ _ (nI_pos (by omega))]
    try rw [ix_nI (by omega)]
    rw [nI_1 k]
    by_cases k1 : (bz (K 0 6)) = 0
    · rewrite [if_pos k1]; simp only [if_pos k1] at hR
      exact hR
    · rewrite [if_neg k1]; simp only [if_neg k1] at hR
      by_cases k2 : (K 0 4) ≤ (nI k)
      · rewrite [if_pos k2]; simp only [if_pos k2] at hR
        exact hR
      · rewrite [if_neg k2]; simp only [if_neg k2] at hR
        rewrite [if_neg (show ¬ (25 : Int32) ≤ nI k from nI_ge (show k < 25 by omega) (by decide))]
        exact (ih (k + 1) _ (by omega)).trans hR
def o_X7_letGo (K : OneV) (B : TriV) (V : MemV)  : MemV := lp_X7_letGo_2 K B 25 0 V
def gV_X7_letGo (K : OneV) (B : TriV) (V : MemV)  : MemV := (o_X7_letGo K B V)
theorem s_X7_letGo {J : MJ} {w r b m n : Nat} (hK : WalL J w r b) (hB : BufL J b) (hM : MemL J m n) (d_KB : w + 1 ≤ b ∨ b + 3 ≤ w) (d_KV : w + 1 ≤ m ∨ m + 12 ≤ w) (d_BV : b + 3 ≤ m ∨ m + 12 ≤ b) (X : MI) (K : OneV) (B : TriV) (V : MemV)  : M_X7_letGo [mR (some w), mR (some m)] (pt (pt (pt X w K) b B) m V, J) = some (none, (pt (pt (pt X w K) b B) m ((gV_X7_letGo K B V)), J)) := by
  generalize hR : some (none, (pt (pt (pt X w K) b B) m ((gV_X7_letGo K B V)), J)) = R
  rw [P_X7_letGo hK hB hM d_KB d_KV d_BV]
  unfold gV_X7_letGo o_X7_letGo at hR
  have z := lr_X7_letGo_2 hK hB hM d_KB d_KV d_BV X K B 25 0 V (Nat.zero_add _)
  rw [show nI 0 = 0 from rfl] at z
  rw [z]
  rw [← hR]
theorem P_X7_takeTrail {J : MJ} {w r b m n : Nat} (hK : WalL J w r b) (hB : BufL J b) (hM : MemL J m n) (d_KB : w + 1 ≤ b ∨ b + 3 ≤ w) (d_KV : w + 1 ≤ m ∨ m + 12 ≤ w) (d_BV : b + 3 ≤ m ∨ m + 12 ≤ b) (X : MI) (K : OneV) (B : TriV) (V : MemV) : M_X7_takeTrail [mR (some w), mR (some m)] (pt (pt (pt X w K) b B) m V, J) = Ev T_X7_takeTrail 2 [some (mR (some w)), some (mR (some m)), some (mI 0), none] [] (pt (pt (pt X w K) b B) m V, J) := by
  generalize hR : Ev T_X7_takeTrail 2 [some (mR (some w)), some (mR (some m)), some (mI 0), none] [] (pt (pt (pt X w K) b B) m V, J) = R
  rw [E_X7_takeTrail]
  exact hR
theorem P_X7_takeTrail_2 {J : MJ} {w r b m n : Nat} (hK : WalL J w r b) (hB : BufL J b) (hM : MemL J m n) (d_KB : w + 1 ≤ b ∨ b + 3 ≤ w) (d_KV : w + 1 ≤ m ∨ m + 12 ≤ w) (d_BV : b + 3 ≤ m ∨ m + 12 ≤ b) (X : MI) (K : OneV) (B : TriV) (V : MemV) (x2 : Int32) (h_x2 : ¬ x2 < 0) : Ev T_X7_takeTrail 2 [some (mR (some w)), some (mR (some m)), some (mI x2), none] [] (pt (pt (pt X w K) b B) m V, J) = (if (V 0 16) ≤ x2 then some (none, (pt (pt (pt X w K) b B) m V, J)) else (if (2 : Int32) ≤ x2 then some (none, (pt (pt (pt X w K) b B) m V, J)) else (if (q_X1_isEntry V (V 11 (ix x2))) = 0 then Ev T_X7_takeTrail 2 [some (mR (some w)), some (mR (some m)), some (mI (x2 + 1)), none] [] (pt (pt (pt X w K) b B) m V, J) else (if (q_X1_isAbsence V (V 11 (ix x2))) = 0 then (if (K 0 4) < 0 then Ev T_X7_takeTrail 2 [some (mR (some w)), some (mR (some m)), some (mI (x2 + 1)), none] [] (pt (pt (pt X w K) b B) m V, J) else (if (25 : Int32) ≤ (K 0 4) then Ev T_X7_takeTrail 2 [some (mR (some w)), some (mR (some m)), some (mI (x2 + 1)), none] [] (pt (pt (pt X w K) b B) m V, J) else (if (bz (K 0 6)) = 0 then Ev T_X7_takeTrail 2 [some (mR (some w)), some (mR (some m)), some (mI (x2 + 1)), none] [] (pt (pt (pt X w (uv K 0 4 ((K 0 4) + 1))) b (uv (uv (uv B 0 (ix (K 0 4)) (V 11 (ix x2))) 1 (ix (K 0 4)) (V 8 (ix (V 11 (ix x2))))) 2 (ix (K 0 4)) (V 6 (ix (V 11 (ix x2)))))) m V, J) else Ev T_X7_takeTrail 2 [some (mR (some w)), some (mR (some m)), some (mI (x2 + 1)), none] [] (pt (pt (pt X w (uv K 0 4 ((K 0 4) + 1))) b (uv (uv (uv B 0 (ix (K 0 4)) (V 11 (ix x2))) 1 (ix (K 0 4)) (V 8 (ix (V 11 (ix x2))))) 2 (ix (K 0 4)) (V 6 (ix (V 11 (ix x2)))))) m (gV_X1_hold V (V 11 (ix x2))), J)))) else Ev T_X7_takeTrail 2 [some (mR (some w)), some (mR (some m)), some (mI (x2 + 1)), none] [] (pt (pt (pt X w K) b B) m V, J))))) := by
  generalize hR : (if (V 0 16) ≤ x2 then some (none, (pt (pt (pt X w K) b B) m V, J)) else (if (2 : Int32) ≤ x2 then some (none, (pt (pt (pt X w K) b B) m V, J)) else (if (q_X1_isEntry V (V 11 (ix x2))) = 0 then Ev T_X7_takeTrail 2 [some (mR (some w)), some (mR (some m)), some (mI (x2 + 1)), none] [] (pt (pt (pt X w K) b B) m V, J) else (if (q_X1_isAbsence V (V 11 (ix x2))) = 0 then (if (K 0 4) < 0 then Ev T_X7_takeTrail 2 [some (mR (some w)), some (mR (some m)), some (mI (x2 + 1)), none] [] (pt (pt (pt X w K) b B) m V, J) else (if (25 : Int32) ≤ (K 0 4) then Ev T_X7_takeTrail 2 [some (mR (some w)), some (mR (some m)), some (mI (x2 + 1)), none] [] (pt (pt (pt X w K) b B) m V, J) else (if (bz (K 0 6)) = 0 then Ev T_X7_takeTrail 2 [some (mR (some w)), some (mR (some m)), some (mI (x2 + 1)), none] [] (pt (pt (pt X w (uv K 0 4 ((K 0 4) + 1))) b (uv (uv (uv B 0 (ix (K 0 4)) (V 11 (ix x2))) 1 (ix (K 0 4)) (V 8 (ix (V 11 (ix x2))))) 2 (ix (K 0 4)) (V 6 (ix (V 11 (ix x2)))))) m V, J) else Ev T_X7_takeTrail 2 [some (mR (some w)), some (mR (some m)), some (mI (x2 + 1)), none] [] (pt (pt (pt X w (uv K 0 4 ((K 0 4) + 1))) b (uv (uv (uv B 0 (ix (K 0 4)) (V 11 (ix x2))) 1 (ix (K 0 4)) (V 8 (ix (V 11 (ix x2))))) 2 (ix (K 0 4)) (V 6 (ix (V 11 (ix x2)))))) m (gV_X1_hold V (V 11 (ix x2))), J)))) else Ev T_X7_takeTrail 2 [some (mR (some w)), some (mR (some m)), some (mI (x2 + 1)), none] [] (pt (pt (pt X w K) b B) m V, J))))) = R
  rw [E_X7_takeTrail_2]
  try rewrite [fI_ok 16 hM.k]
  try rewrite [Option.bind_some]
  try rewrite [p12_0]
  by_cases h1 : (V 0 16) ≤ x2
  · rewrite [if_pos h1]; simp only [if_pos h1] at hR
    exact hR
  · rewrite [if_neg h1]; simp only [if_neg h1] at hR
    try rewrite [fR_ok 15 hM.k]
    try rewrite [Option.bind_some]
    try rewrite [hM.r11]
    try simp only [Option.bind_some]
    try rewrite [aln_ok hM.s11 (by decide)]
    try rewrite [Option.bind_some]
    try rewrite [show nI 2 = 2 from rfl]
    by_cases h2 : (2 : Int32) ≤ x2
    · rewrite [if_pos h2]; simp only [if_pos h2] at hR
      exact hR
    · rewrite [if_neg h2]; simp only [if_neg h2] at hR
      try rewrite [fR_ok 15 hM.k]
      try rewrite [Option.bind_some]
      try rewrite [hM.r11]
      try simp only [Option.bind_some]
      try rewrite [ld_ok _ hM.s11 (inb_of rfl h_x2 h2)]
      try rewrite [Option.bind_some]
      try rewrite [p12_11]
      try simp only [Option.bind_some]
      rewrite [if_pos (show kd (pt (pt (pt X w K) b B) m V, J) m = 1 from hM.k)]
      rewrite [s_X1_isEntry hM]
      simp only [Option.bind_some, asI_I]
      by_cases h3 : (q_X1_isEntry V (V 11 (ix x2))) = 0
      · rewrite [if_pos h3]; simp only [if_pos h3] at hR
        exact hR
      · rewrite [if_neg h3]; simp only [if_neg h3] at hR
        try simp only [Option.bind_some]
        rewrite [if_pos (show kd (pt (pt (pt X w K) b B) m V, J) m = 1 from hM.k)]
        rewrite [s_X1_isAbsence hM]
        simp only [Option.bind_some, asI_I]
        by_cases h4 : (q_X1_isAbsence V (V 11 (ix x2))) = 0
        · rewrite [if_pos h4]; simp only [if_pos h4] at hR
          try rewrite [fI_ok 4 hK.k]
          try rewrite [Option.bind_some]
          try rewrite [pt_out (x := w) (a := m) (by have := d_KV; omega)]
          try rewrite [pt_out (x := w) (a := b) (by have := d_KB; omega)]
          try rewrite [p1_0]
          by_cases h5 : (K 0 4) < 0
          · rewrite [if_pos h5]; simp only [if_pos h5] at hR
            exact hR
          · rewrite [if_neg h5]; simp only [if_neg h5] at hR
            try rewrite [fI_ok 4 hK.k]
            try rewrite [Option.bind_some]
            try rewrite [pt_out (x := w) (a := m) (by have := d_KV; omega)]
            try rewrite [pt_out (x := w) (a := b) (by have := d_KB; omega)]
            try rewrite [p1_0]
            by_cases h6 : (25 : Int32) ≤ (K 0 4)
            · rewrite [if_pos h6]; simp only [if_pos h6] at hR
              exact hR
            · rewrite [if_neg h6]; simp only [if_neg h6] at hR
              try rewrite [fR_ok 1 hK.k]
              try rewrite [Option.bind_some]
              try rewrite [hK.r1]
              try rewrite [fI_ok 4 hK.k]
              try rewrite [Option.bind_some]
              try rewrite [pt_out (x := w) (a := m) (by have := d_KV; omega)]
              try rewrite [pt_out (x := w) (a := b) (by have := d_KB; omega)]
              try rewrite [p1_0]
              try simp only [Option.bind_some]
              try rewrite [st_ok _ _ hB.s0 (inb_of rfl h5 h6)]
              try rewrite [Option.bind_some]
              try rewrite [up_out (x := b) (a := m) (by have := d_BV; omega)]
              try rewrite [u3_0]
              try rewrite [fR_ok 2 hK.k]
              try rewrite [Option.bind_some]
              try rewrite [hK.r2]
              try rewrite [fI_ok 4 hK.k]
              try rewrite [Option.bind_some]
              try rewrite [pt_out (x := w) (a := m) (by have := d_KV; omega)]
              try rewrite [pt_out (x := w) (a := b) (by have := d_KB; omega)]
              try rewrite [p1_0]
              try rewrite [fR_ok 8 hM.k]
              try rewrite [Option.bind_some]
              try rewrite [hM.r8]
              try simp only [Option.bind_some]
              try rewrite [ld_ok _ hM.s8 (b_X1_isEntry_0 h3)]
              try rewrite [Option.bind_some]
              try rewrite [p12_8]
              try simp only [Option.bind_some]
              try rewrite [st_ok _ _ hB.s1 (inb_of rfl h5 h6)]
              try rewrite [Option.bind_some]
              try rewrite [up_out (x := b + 1) (a := m) (by have := d_BV; omega)]
              try rewrite [u3_1]
              try rewrite [fR_ok 3 hK.k]
              try rewrite [Option.bind_some]
              try rewrite [hK.r3]
              try rewrite [fI_ok 4 hK.k]
              try rewrite [Option.bind_some]
              try rewrite [pt_out (x := w) (a := m) (by have := d_KV; omega)]
              try rewrite [pt_out (x := w) (a := b) (by have := d_KB; omega)]
              try rewrite [p1_0]
              try rewrite [fR_ok 6 hM.k]
              try rewrite [Option.bind_some]
              try rewrite [hM.r6]
              try simp only [Option.bind_some]
              try rewrite [ld_ok _ hM.s6 (b_X1_isEntry_0 h3)]
              try rewrite [Option.bind_some]
              try rewrite [p12_6]
              try simp only [Option.bind_some]
              try rewrite [st_ok _ _ hB.s2 (inb_of rfl h5 h6)]
              try rewrite [Option.bind_some]
              try rewrite [up_out (x := b + 2) (a := m) (by have := d_BV; omega)]
              try rewrite [u3_2]
              try rewrite [fI_ok 4 hK.k]
              try rewrite [Option.bind_some]
              try rewrite [pt_out (x := w) (a := m) (by have := d_KV; omega)]
              try rewrite [pt_out (x := w) (a := b) (by have := d_KB; omega)]
              try rewrite [p1_0]
              try rewrite [wI_ok 4 _ hK.k]
              try rewrite [Option.bind_some]
              try rewrite [up_out (x := w) (a := m) (by have := d_KV; omega)]
              try rewrite [up_out (x := w) (a := b) (by have := d_KB; omega)]
              try rewrite [u1_0]
              try rewrite [fZ_ok 6 hK.k]
              try rewrite [Option.bind_some]
              try rewrite [pt_out (x := w) (a := m) (by have := d_KV; omega)]
              try rewrite [pt_out (x := w) (a := b) (by have := d_KB; omega)]
              try rewrite [p1_0]
              try rewrite [uv_n _ _ _ _ _ _ (by decide)]
              by_cases h7 : (bz (K 0 6)) = 0
              · rewrite [if_pos h7]; simp only [if_pos h7] at hR
                exact hR
              · rewrite [if_neg h7]; simp only [if_neg h7] at hR
                try simp only [Option.bind_some]
                rewrite [if_pos (show kd (pt (pt (pt X w (uv K 0 4 ((K 0 4) + 1))) b (uv (uv (uv B 0 (ix (K 0 4)) (V 11 (ix x2))) 1 (ix (K 0 4)) (V 8 (ix (V 11 (ix x2))))) 2 (ix (K 0 4)) (V 6 (ix (V 11 (ix x2)))))) m V, J) m = 1 from hM.k)]
                rewrite [s_X1_hold hM]
                simp only [Option.bind_some, asV_n]
                exact hR
        · rewrite [if_neg h4]; simp only [if_neg h4] at hR
          exact hR
def lp_X7_takeTrail_2  : Nat → Nat → OneV → TriV → MemV → OneV × TriV × MemV
  | 0, k, K, B, V => (if (V 0 16) ≤ (nI k) then (K, B, V) else (K, B, V))
  | nn + 1, k, K, B, V => (if (V 0 16) ≤ (nI k) then (K, B, V) else (if (q_X1_isEntry V (V 11 k)) = 0 then lp_X7_takeTrail_2  nn (k + 1) K B V else (if (q_X1_isAbsence V (V 11 k)) = 0 then (if (K 0 4) < 0 then lp_X7_takeTrail_2  nn (k + 1) K B V else (if (25 : Int32) ≤ (K 0 4) then lp_X7_takeTrail_2  nn (k + 1) K B V else (if (bz (K 0 6)) = 0 then lp_X7_takeTrail_2  nn (k + 1) (uv K 0 4 ((K 0 4) + 1)) (uv (uv (uv B 0 (ix (K 0 4)) (V 11 k)) 1 (ix (K 0 4)) (V 8 (ix (V 11 k)))) 2 (ix (K 0 4)) (V 6 (ix (V 11 k)))) V else lp_X7_takeTrail_2  nn (k + 1) (uv K 0 4 ((K 0 4) + 1)) (uv (uv (uv B 0 (ix (K 0 4)) (V 11 k)) 1 (ix (K 0 4)) (V 8 (ix (V 11 k)))) 2 (ix (K 0 4)) (V 6 (ix (V 11 k)))) (gV_X1_hold V (V 11 k))))) else lp_X7_takeTrail_2  nn (k + 1) K B V)))
theorem lr_X7_takeTrail_2 {J : MJ} {w r b m n : Nat} (hK : WalL J w r b) (hB : BufL J b) (hM : MemL J m n) (d_KB : w + 1 ≤ b ∨ b + 3 ≤ w) (d_KV : w + 1 ≤ m ∨ m + 12 ≤ w) (d_BV : b + 3 ≤ m ∨ m + 12 ≤ b) (X : MI)  : ∀ (nn k : Nat) (K : OneV) (B : TriV) (V : MemV), k + nn = 2 → Ev T_X7_takeTrail 2 [some (mR (some w)), some (mR (some m)), some (mI (nI k)), none] [] (pt (pt (pt X w K) b B) m V, J) = some (none, (pt (pt (pt X w ((lp_X7_takeTrail_2  nn k K B V).1)) b ((lp_X7_takeTrail_2  nn k K B V).2.1)) m ((lp_X7_takeTrail_2  nn k K B V).2.2), J)) := by
  intro nn
  induction nn with
  | zero =>
    intro k K B V hk
    have hk : k = 2 := by omega
    subst hk
    generalize hR : some (none, (pt (pt (pt X w ((lp_X7_takeTrail_2  0 2 K B V).1)) b ((lp_X7_takeTrail_2  0 2 K B V).2.1)) m ((lp_X7_takeTrail_2  0 2 K B V).2.2), J)) = R
    rw [lp_X7_takeTrail_2] at hR
    rw [P_X7_takeTrail_2 hK hB hM d_KB d_KV d_BV _ _ _ _ _ (nI_pos (by omega))]
    by_cases k1 : (V 0 16) ≤ (nI 2)
    · rewrite [if_pos k1]; simp only [if_pos k1] at hR
      exact hR
    · rewrite [if_neg k1]; simp only [if_neg k1] at hR
      rewrite [if_pos (show (2 : Int32) ≤ nI 2 from Int32.le_refl _)]
      exact hR
  | succ nn ih =>
    intro k K B V hk
    generalize hR : some (none, (pt (pt (pt X w ((lp_X7_takeTrail_2  (nn + 1) k K B V).1)) b ((lp_X7_takeTrail_2  (nn + 1) k K B V).2.1)) m ((lp_X7_takeTrail_2  (nn + 1) k K B V).2.2), J)) = R
    rw [lp_X7_takeTrail_2] at hR
    rw [P_X7_takeTrail_2 hK hB hM d_KB d_KV d_BV _ _ _ _ _ (nI_pos (by omega))]
    try rw [ix_nI (by omega)]
    rw [nI_1 k]
    by_cases k1 : (V 0 16) ≤ (nI k)
    · rewrite [if_pos k1]; simp only [if_pos k1] at hR
      exact hR
    · rewrite [if_neg k1]; simp only [if_neg k1] at hR
      rewrite [if_neg (show ¬ (2 : Int32) ≤ nI k from nI_ge (show k < 2 by omega) (by decide))]
      by_cases k2 : (q_X1_isEntry V (V 11 k)) = 0
      · rewrite [if_pos k2]; simp only [if_pos k2] at hR
        exact (ih (k + 1) _ _ _ (by omega)).trans hR
      · rewrite [if_neg k2]; simp only [if_neg k2] at hR
        by_cases k3 : (q_X1_isAbsence V (V 11 k)) = 0
        · rewrite [if_pos k3]; simp only [if_pos k3] at hR
          by_cases k4 : (K 0 4) < 0
          · rewrite [if_pos k4]; simp only [if_pos k4] at hR
            exact (ih (k + 1) _ _ _ (by omega)).trans hR
          · rewrite [if_neg k4]; simp only [if_neg k4] at hR
            by_cases k5 : (25 : Int32) ≤ (K 0 4)
            · rewrite [if_pos k5]; simp only [if_pos k5] at hR
              exact (ih (k + 1) _ _ _ (by omega)).trans hR
            · rewrite [if_neg k5]; simp only [if_neg k5] at hR
              by_cases k6 : (bz (K 0 6)) = 0
              · rewrite [if_pos k6]; simp only [if_pos k6] at hR
                exact (ih (k + 1) _ _ _ (by omega)).trans hR
              · rewrite [if_neg k6]; simp only [if_neg k6] at hR
                exact (ih (k + 1) _ _ _ (by omega)).trans hR
        · rewrite [if_neg k3]; simp only [if_neg k3] at hR
          exact (ih (k + 1) _ _ _ (by omega)).trans hR
def o_X7_takeTrail (K : OneV) (B : TriV) (V : MemV)  : OneV × TriV × MemV := lp_X7_takeTrail_2  2 0 K B V
def gK_X7_takeTrail (K : OneV) (B : TriV) (V : MemV)  : OneV := (o_X7_takeTrail K B V).1
def gB_X7_takeTrail (K : OneV) (B : TriV) (V : MemV)  : TriV := (o_X7_takeTrail K B V).2.1
def gV_X7_takeTrail (K : OneV) (B : TriV) (V : MemV)  : MemV := (o_X7_takeTrail K B V).2.2
theorem s_X7_takeTrail {J : MJ} {w r b m n : Nat} (hK : WalL J w r b) (hB : BufL J b) (hM : MemL J m n) (d_KB : w + 1 ≤ b ∨ b + 3 ≤ w) (d_KV : w + 1 ≤ m ∨ m + 12 ≤ w) (d_BV : b + 3 ≤ m ∨ m + 12 ≤ b) (X : MI) (K : OneV) (B : TriV) (V : MemV)  : M_X7_takeTrail [mR (some w), mR (some m)] (pt (pt (pt X w K) b B) m V, J) = some (none, (pt (pt (pt X w ((gK_X7_takeTrail K B V))) b ((gB_X7_takeTrail K B V))) m ((gV_X7_takeTrail K B V)), J)) := by
  generalize hR : some (none, (pt (pt (pt X w ((gK_X7_takeTrail K B V))) b ((gB_X7_takeTrail K B V))) m ((gV_X7_takeTrail K B V)), J)) = R
  rw [P_X7_takeTrail hK hB hM d_KB d_KV d_BV]
  unfold gK_X7_takeTrail gB_X7_takeTrail gV_X7_takeTrail o_X7_takeTrail at hR
  have z := lr_X7_takeTrail_2 hK hB hM d_KB d_KV d_BV X  2 0 K B V (Nat.zero_add _)
  rw [show nI 0 = 0 from rfl] at z
  rw [z]
  rw [← hR]
def gB_X7_goToRoot (K : OneV) (B : TriV) (V : MemV) : TriV := gB_X7_takeTrail (uv (uv K 0 4 0) 0 8 0) B (gV_X1_comeToRoot V)
def gK_X7_goToRoot (K : OneV) (B : TriV) (V : MemV) : OneV := gK_X7_takeTrail (uv (uv K 0 4 0) 0 8 0) B (gV_X1_comeToRoot V)
def gV_X7_goToRoot (K : OneV) (B : TriV) (V : MemV) : MemV := gV_X7_takeTrail (uv (uv K 0 4 0) 0 8 0) B (gV_X1_comeToRoot V)
theorem s_X7_goToRoot {J : MJ} {w r b m n : Nat} (hK : WalL J w r b) (hB : BufL J b) (hM : MemL J m n) (d_KB : w + 1 ≤ b ∨ b + 3 ≤ w) (d_KV : w + 1 ≤ m ∨ m + 12 ≤ w) (d_BV : b + 3 ≤ m ∨ m + 12 ≤ b) (X : MI) (K : OneV) (B : TriV) (V : MemV) : M_X7_goToRoot [mR (some w), mR (some m)] (pt (pt (pt X w K) b B) m V, J) = some (none, (pt (pt (pt X w (gK_X7_goToRoot K B V)) b (gB_X7_goToRoot K B V)) m (gV_X7_goToRoot K B V), J)) := by
  generalize hR : some (none, (pt (pt (pt X w (gK_X7_goToRoot K B V)) b (gB_X7_goToRoot K B V)) m (gV_X7_goToRoot K B V), J)) = R
  rw [E_X7_goToRoot]
  unfold gB_X7_goToRoot gK_X7_goToRoot gV_X7_goToRoot at hR
  try rewrite [wI_ok 4 _ hK.k]
  try rewrite [Option.bind_some]
  try rewrite [up_out (x := w) (a := m) (by have := d_KV; omega)]
  try rewrite [up_out (x := w) (a := b) (by have := d_KB; omega)]
  try rewrite [u1_0]
  try rewrite [wI_ok 8 _ hK.k]
  try rewrite [Option.bind_some]
  try rewrite [up_out (x := w) (a := m) (by have := d_KV; omega)]
  try rewrite [up_out (x := w) (a := b) (by have := d_KB; omega)]
  try rewrite [u1_0]
  try simp only [Option.bind_some]
  rewrite [if_pos (show kd (pt (pt (pt X w (uv (uv K 0 4 0) 0 8 0)) b B) m V, J) m = 1 from hM.k)]
  rewrite [s_X1_comeToRoot hM]
  simp only [Option.bind_some, asI_I]
  try simp only [Option.bind_some]
  rewrite [if_pos (show kd (pt (pt (pt X w (uv (uv K 0 4 0) 0 8 0)) b B) m (gV_X1_comeToRoot V), J) w = 7 from hK.k)]
  rewrite [s_X7_takeTrail hK hB hM d_KB d_KV d_BV]
  simp only [Option.bind_some, asV_n]
  exact hR
def gK_X7_stop (K : OneV) (B : TriV) (V : MemV) : OneV := uv (uv K 0 5 0) 0 4 0
def gV_X7_stop (K : OneV) (B : TriV) (V : MemV) : MemV := gV_X7_letGo K B V
theorem s_X7_stop {J : MJ} {w r b m n : Nat} (hK : WalL J w r b) (hB : BufL J b) (hM : MemL J m n) (d_KB : w + 1 ≤ b ∨ b + 3 ≤ w) (d_KV : w + 1 ≤ m ∨ m + 12 ≤ w) (d_BV : b + 3 ≤ m ∨ m + 12 ≤ b) (X : MI) (K : OneV) (B : TriV) (V : MemV) : M_X7_stop [mR (some w), mR (some m)] (pt (pt (pt X w K) b B) m V, J) = some (none, (pt (pt (pt X w (gK_X7_stop K B V)) b B) m (gV_X7_stop K B V), J)) := by
  generalize hR : some (none, (pt (pt (pt X w (gK_X7_stop K B V)) b B) m (gV_X7_stop K B V), J)) = R
  rw [E_X7_stop]
  unfold gK_X7_stop gV_X7_stop at hR
  try simp only [Option.bind_some]
  rewrite [if_pos (show kd (pt (pt (pt X w K) b B) m V, J) w = 7 from hK.k)]
  rewrite [s_X7_letGo hK hB hM d_KB d_KV d_BV]
  simp only [Option.bind_some, asV_n]
  try rewrite [wZ_ok 5 _ hK.k (by decide)]
  try rewrite [Option.bind_some]
  try rewrite [up_out (x := w) (a := m) (by have := d_KV; omega)]
  try rewrite [up_out (x := w) (a := b) (by have := d_KB; omega)]
  try rewrite [u1_0]
  try rewrite [wI_ok 4 _ hK.k]
  try rewrite [Option.bind_some]
  try rewrite [up_out (x := w) (a := m) (by have := d_KV; omega)]
  try rewrite [up_out (x := w) (a := b) (by have := d_KB; omega)]
  try rewrite [u1_0]
  exact hR
def q_X7_lacksNext (L : Nat) (K : OneV) (P : RouV) (B : TriV) (V : MemV) : Int32 := (if (q_X4_stepAt L P (K 0 8)) ≤ 0 then 0 else (if (q_X1_find V (q_X7_lastOfWay K B) (q_X4_stepAt L P (K 0 8))) = ((-1)) then 1 else 0))
theorem s_X7_lacksNext {J : MJ} {w r b L m n : Nat} (hK : WalL J w r b) (hP : RouL J r L) (hB : BufL J b) (hM : MemL J m n) (d_KP : w + 1 ≤ r ∨ r + 2 ≤ w) (d_KB : w + 1 ≤ b ∨ b + 3 ≤ w) (d_KV : w + 1 ≤ m ∨ m + 12 ≤ w) (d_PB : r + 2 ≤ b ∨ b + 3 ≤ r) (d_PV : r + 2 ≤ m ∨ m + 12 ≤ r) (d_BV : b + 3 ≤ m ∨ m + 12 ≤ b) (X : MI) (K : OneV) (P : RouV) (B : TriV) (V : MemV) : M_X7_lacksNext [mR (some w), mR (some m)] (pt (pt (pt (pt X w K) r P) b B) m V, J) = some (some (mI (q_X7_lacksNext L K P B V)), (pt (pt (pt (pt X w K) r P) b B) m V, J)) := by
  generalize hR : some (some (mI (q_X7_lacksNext L K P B V)), (pt (pt (pt (pt X w K) r P) b B) m V, J)) = R
  rw [E_X7_lacksNext]
  unfold q_X7_lacksNext at hR
  try rewrite [fR_ok 0 hK.k]
  try rewrite [Option.bind_some]
  try rewrite [hK.r0]
  try rewrite [fI_ok 8 hK.k]
  try rewrite [Option.bind_some]
  try rewrite [pt_out (x := w) (a := m) (by have := d_KV; omega)]
  try rewrite [pt_out (x := w) (a := b) (by have := d_KB; omega)]
  try rewrite [pt_out (x := w) (a := r) (by have := d_KP; omega)]
  try rewrite [p1_0]
  try simp only [Option.bind_some]
  rewrite [if_pos (show kd (pt (pt (pt (pt X w K) r P) b B) m V, J) r = 4 from hP.k)]
  rw [pt_comm (pt X w K) P B d_PB, pt_comm (pt (pt X w K) b B) P V d_PV]
  rw [s_X4_stepAt hP]
  rw [pt_comm (pt (pt X w K) b B) V P (Or.symm d_PV), pt_comm (pt X w K) B P (Or.symm d_PB)]
  simp only [Option.bind_some, asI_I]
  by_cases h1 : (q_X4_stepAt L P (K 0 8)) ≤ 0
  · rewrite [if_pos h1]; simp only [if_pos h1] at hR
    first | exact hR | (simp only [if_pos (show (0 : Int32) = 0 ∨ (0 : Int32) = 1 by decide), if_pos (show (1 : Int32) = 0 ∨ (1 : Int32) = 1 by decide)]; exact hR) | (simp; exact hR)
  · rewrite [if_neg h1]; simp only [if_neg h1] at hR
    try simp only [Option.bind_some]
    rewrite [if_pos (show kd (pt (pt (pt (pt X w K) r P) b B) m V, J) w = 7 from hK.k)]
    rw [pt_comm (pt (pt X w K) r P) B V d_BV, pt_comm X K P d_KP, pt_comm (pt X r P) K V d_KV]
    rw [s_X7_lastOfWay hK hB d_KB]
    rw [pt_comm (pt X r P) V K (Or.symm d_KV), pt_comm (pt (pt X r P) w K) V B (Or.symm d_BV), pt_comm X P K (Or.symm d_KP)]
    simp only [Option.bind_some, asI_I]
    try simp only [Option.bind_some]
    rewrite [if_pos (show kd (pt (pt (pt (pt X w K) r P) b B) m V, J) m = 1 from hM.k)]
    rewrite [s_X1_find hM]
    simp only [Option.bind_some, asI_I]
    by_cases h2 : (q_X1_find V (q_X7_lastOfWay K B) (q_X4_stepAt L P (K 0 8))) = ((-1))
    · rewrite [if_pos h2]; simp only [if_pos h2] at hR
      first | exact hR | (simp only [if_pos (show (0 : Int32) = 0 ∨ (0 : Int32) = 1 by decide), if_pos (show (1 : Int32) = 0 ∨ (1 : Int32) = 1 by decide)]; exact hR) | (simp; exact hR)
    · rewrite [if_neg h2]; simp only [if_neg h2] at hR
      first | exact hR | (simp only [if_pos (show (0 : Int32) = 0 ∨ (0 : Int32) = 1 by decide), if_pos (show (1 : Int32) = 0 ∨ (1 : Int32) = 1 by decide)]; exact hR) | (simp; exact hR)
theorem P_X7_goOn {J : MJ} {w r b L n m : Nat} (hK : WalL J w r b) (hP : RouL J r L) (hB : BufL J b) (hN : NodL J n) (hM : MemL J m n) (d_KP : w + 1 ≤ r ∨ r + 2 ≤ w) (d_KB : w + 1 ≤ b ∨ b + 3 ≤ w) (d_KU : w + 1 ≤ n ∨ n + 6 ≤ w) (d_KV : w + 1 ≤ m ∨ m + 12 ≤ w) (d_PB : r + 2 ≤ b ∨ b + 3 ≤ r) (d_PU : r + 2 ≤ n ∨ n + 6 ≤ r) (d_PV : r + 2 ≤ m ∨ m + 12 ≤ r) (d_BU : b + 3 ≤ n ∨ n + 6 ≤ b) (d_BV : b + 3 ≤ m ∨ m + 12 ≤ b) (d_UV : n + 6 ≤ m ∨ m + 12 ≤ n) (X : MI) (K : OneV) (P : RouV) (B : TriV) (U : NodV) (V : MemV) : M_X7_goOn [mR (some w), mR (some m)] (pt (pt (pt (pt (pt X w K) r P) b B) n U) m V, J) = (if (q_X7_isChanged K B V) = 0 then (if (bz (K 0 6)) = 0 then (if (q_X7_lacksNext L K P B V) = 0 then (if (K 0 7) < 3 then Ev T_X7_goOn 89 [some (mR (some w)), some (mR (some m)), some (mI 1), some (mI (q_X7_lastOfWay K B)), some (mI 0)] [] (pt (pt (pt (pt (pt X w K) r P) b B) n U) m V, J) else Ev T_X7_goOn 89 [some (mR (some w)), some (mR (some m)), some (mI (P 0 1)), some (mI (q_X7_lastOfWay K B)), some (mI 0)] [] (pt (pt (pt (pt (pt X w K) r P) b B) n U) m V, J)) else (if (K 0 7) < 3 then Ev T_X7_goOn 89 [some (mR (some w)), some (mR (some m)), some (mI 1), some (mI (q_X7_lastOfWay (uv K 0 6 1) B)), some (mI 0)] [] (pt (pt (pt (pt (pt X w (uv K 0 6 1)) r P) b B) n U) m (gV_X7_holdAll (uv K 0 6 1) B V), J) else Ev T_X7_goOn 89 [some (mR (some w)), some (mR (some m)), some (mI (P 0 1)), some (mI (q_X7_lastOfWay (uv K 0 6 1) B)), some (mI 0)] [] (pt (pt (pt (pt (pt X w (uv K 0 6 1)) r P) b B) n U) m (gV_X7_holdAll (uv K 0 6 1) B V), J))) else (if (K 0 7) < 3 then Ev T_X7_goOn 89 [some (mR (some w)), some (mR (some m)), some (mI 1), some (mI (q_X7_lastOfWay K B)), some (mI 0)] [] (pt (pt (pt (pt (pt X w K) r P) b B) n U) m V, J) else Ev T_X7_goOn 89 [some (mR (some w)), some (mR (some m)), some (mI (P 0 1)), some (mI (q_X7_lastOfWay K B)), some (mI 0)] [] (pt (pt (pt (pt (pt X w K) r P) b B) n U) m V, J))) else (if ((gK_X7_goToRoot (uv (uv K 0 7 ((K 0 7) + 1)) 0 6 1) B (gV_X7_letGo K B V)) 0 7) < 3 then Ev T_X7_goOn 89 [some (mR (some w)), some (mR (some m)), some (mI 1), some (mI (q_X7_lastOfWay (gK_X7_goToRoot (uv (uv K 0 7 ((K 0 7) + 1)) 0 6 1) B (gV_X7_letGo K B V)) (gB_X7_goToRoot (uv (uv K 0 7 ((K 0 7) + 1)) 0 6 1) B (gV_X7_letGo K B V)))), some (mI 0)] [] (pt (pt (pt (pt (pt X w (gK_X7_goToRoot (uv (uv K 0 7 ((K 0 7) + 1)) 0 6 1) B (gV_X7_letGo K B V))) r P) b (gB_X7_goToRoot (uv (uv K 0 7 ((K 0 7) + 1)) 0 6 1) B (gV_X7_letGo K B V))) n U) m (gV_X7_goToRoot (uv (uv K 0 7 ((K 0 7) + 1)) 0 6 1) B (gV_X7_letGo K B V)), J) else Ev T_X7_goOn 89 [some (mR (some w)), some (mR (some m)), some (mI (P 0 1)), some (mI (q_X7_lastOfWay (gK_X7_goToRoot (uv (uv K 0 7 ((K 0 7) + 1)) 0 6 1) B (gV_X7_letGo K B V)) (gB_X7_goToRoot (uv (uv K 0 7 ((K 0 7) + 1)) 0 6 1) B (gV_X7_letGo K B V)))), some (mI 0)] [] (pt (pt (pt (pt (pt X w (gK_X7_goToRoot (uv (uv K 0 7 ((K 0 7) + 1)) 0 6 1) B (gV_X7_letGo K B V))) r P) b (gB_X7_goToRoot (uv (uv K 0 7 ((K 0 7) + 1)) 0 6 1) B (gV_X7_letGo K B V))) n U) m (gV_X7_goToRoot (uv (uv K 0 7 ((K 0 7) + 1)) 0 6 1) B (gV_X7_letGo K B V)), J))) := by
  generalize hR : (if (q_X7_isChanged K B V) = 0 then (if (bz (K 0 6)) = 0 then (if (q_X7_lacksNext L K P B V) = 0 then (if (K 0 7) < 3 then Ev T_X7_goOn 89 [some (mR (some w)), some (mR (some m)), some (mI 1), some (mI (q_X7_lastOfWay K B)), some (mI 0)] [] (pt (pt (pt (pt (pt X w K) r P) b B) n U) m V, J) else Ev T_X7_goOn 89 [some (mR (some w)), some (mR (some m)), some (mI (P 0 1)), some (mI (q_X7_lastOfWay K B)), some (mI 0)] [] (pt (pt (pt (pt (pt X w K) r P) b B) n U) m V, J)) else (if (K 0 7) < 3 then Ev T_X7_goOn 89 [some (mR (some w)), some (mR (some m)), some (mI 1), some (mI (q_X7_lastOfWay (uv K 0 6 1) B)), some (mI 0)] [] (pt (pt (pt (pt (pt X w (uv K 0 6 1)) r P) b B) n U) m (gV_X7_holdAll (uv K 0 6 1) B V), J) else Ev T_X7_goOn 89 [some (mR (some w)), some (mR (some m)), some (mI (P 0 1)), some (mI (q_X7_lastOfWay (uv K 0 6 1) B)), some (mI 0)] [] (pt (pt (pt (pt (pt X w (uv K 0 6 1)) r P) b B) n U) m (gV_X7_holdAll (uv K 0 6 1) B V), J))) else (if (K 0 7) < 3 then Ev T_X7_goOn 89 [some (mR (some w)), some (mR (some m)), some (mI 1), some (mI (q_X7_lastOfWay K B)), some (mI 0)] [] (pt (pt (pt (pt (pt X w K) r P) b B) n U) m V, J) else Ev T_X7_goOn 89 [some (mR (some w)), some (mR (some m)), some (mI (P 0 1)), some (mI (q_X7_lastOfWay K B)), some (mI 0)] [] (pt (pt (pt (pt (pt X w K) r P) b B) n U) m V, J))) else (if ((gK_X7_goToRoot (uv (uv K 0 7 ((K 0 7) + 1)) 0 6 1) B (gV_X7_letGo K B V)) 0 7) < 3 then Ev T_X7_goOn 89 [some (mR (some w)), some (mR (some m)), some (mI 1), some (mI (q_X7_lastOfWay (gK_X7_goToRoot (uv (uv K 0 7 ((K 0 7) + 1)) 0 6 1) B (gV_X7_letGo K B V)) (gB_X7_goToRoot (uv (uv K 0 7 ((K 0 7) + 1)) 0 6 1) B (gV_X7_letGo K B V)))), some (mI 0)] [] (pt (pt (pt (pt (pt X w (gK_X7_goToRoot (uv (uv K 0 7 ((K 0 7) + 1)) 0 6 1) B (gV_X7_letGo K B V))) r P) b (gB_X7_goToRoot (uv (uv K 0 7 ((K 0 7) + 1)) 0 6 1) B (gV_X7_letGo K B V))) n U) m (gV_X7_goToRoot (uv (uv K 0 7 ((K 0 7) + 1)) 0 6 1) B (gV_X7_letGo K B V)), J) else Ev T_X7_goOn 89 [some (mR (some w)), some (mR (some m)), some (mI (P 0 1)), some (mI (q_X7_lastOfWay (gK_X7_goToRoot (uv (uv K 0 7 ((K 0 7) + 1)) 0 6 1) B (gV_X7_letGo K B V)) (gB_X7_goToRoot (uv (uv K 0 7 ((K 0 7) + 1)) 0 6 1) B (gV_X7_letGo K B V)))), some (mI 0)] [] (pt (pt (pt (pt (pt X w (gK_X7_goToRoot (uv (uv K 0 7 ((K 0 7) + 1)) 0 6 1) B (gV_X7_letGo K B V))) r P) b (gB_X7_goToRoot (uv (uv K 0 7 ((K 0 7) + 1)) 0 6 1) B (gV_X7_letGo K B V))) n U) m (gV_X7_goToRoot (uv (uv K 0 7 ((K 0 7) + 1)) 0 6 1) B (gV_X7_letGo K B V)), J))) = R
  rw [E_X7_goOn]
  try simp only [Option.bind_some]
  rewrite [if_pos (show kd (pt (pt (pt (pt (pt X w K) r P) b B) n U) m V, J) w = 7 from hK.k)]
  rw [pt_comm (pt (pt X w K) r P) B U d_BU, pt_comm X K P d_KP, pt_comm (pt X r P) K U d_KU]
  rw [s_X7_isChanged hK hB hM d_KB d_KV d_BV]
  rw [pt_comm (pt X r P) U K (Or.symm d_KU), pt_comm (pt (pt X r P) w K) U B (Or.symm d_BU), pt_comm X P K (Or.symm d_KP)]
  simp only [Option.bind_some, asI_I]
  by_cases h1 : (q_X7_isChanged K B V) = 0
  · rewrite [if_pos h1]; simp only [if_pos h1] at hR
    try rewrite [fZ_ok 6 hK.k]
    try rewrite [Option.bind_some]
    try rewrite [pt_out (x := w) (a := m) (by have := d_KV; omega)]
    try rewrite [pt_out (x := w) (a := n) (by have := d_KU; omega)]
    try rewrite [pt_out (x := w) (a := b) (by have := d_KB; omega)]
    try rewrite [pt_out (x := w) (a := r) (by have := d_KP; omega)]
    try rewrite [p1_0]
    by_cases h2 : (bz (K 0 6)) = 0
    · rewrite [if_pos h2]; simp only [if_pos h2] at hR
      try simp only [Option.bind_some]
      rewrite [if_pos (show kd (pt (pt (pt (pt (pt X w K) r P) b B) n U) m V, J) w = 7 from hK.k)]
      rw [pt_comm (pt (pt X w K) r P) B U d_BU, pt_comm (pt X w K) P U d_PU, pt_comm X K U d_KU]
      rw [s_X7_lacksNext hK hP hB hM d_KP d_KB d_KV d_PB d_PV d_BV]
      rw [pt_comm X U K (Or.symm d_KU), pt_comm (pt X w K) U P (Or.symm d_PU), pt_comm (pt (pt X w K) r P) U B (Or.symm d_BU)]
      simp only [Option.bind_some, asI_I]
      by_cases h3 : (q_X7_lacksNext L K P B V) = 0
      · rewrite [if_pos h3]; simp only [if_pos h3] at hR
        try rewrite [fI_ok 7 hK.k]
        try rewrite [Option.bind_some]
        try rewrite [pt_out (x := w) (a := m) (by have := d_KV; omega)]
        try rewrite [pt_out (x := w) (a := n) (by have := d_KU; omega)]
        try rewrite [pt_out (x := w) (a := b) (by have := d_KB; omega)]
        try rewrite [pt_out (x := w) (a := r) (by have := d_KP; omega)]
        try rewrite [p1_0]
        by_cases h4 : (K 0 7) < 3
        · rewrite [if_pos h4]; simp only [if_pos h4] at hR
          try simp only [Option.bind_some]
          rewrite [if_pos (show kd (pt (pt (pt (pt (pt X w K) r P) b B) n U) m V, J) w = 7 from hK.k)]
          rw [pt_comm (pt (pt X w K) r P) B U d_BU, pt_comm (pt (pt (pt X w K) r P) n U) B V d_BV, pt_comm X K P d_KP, pt_comm (pt X r P) K U d_KU, pt_comm (pt (pt X r P) n U) K V d_KV]
          rw [s_X7_lastOfWay hK hB d_KB]
          rw [pt_comm (pt (pt X r P) n U) V K (Or.symm d_KV), pt_comm (pt (pt (pt X r P) n U) w K) V B (Or.symm d_BV), pt_comm (pt X r P) U K (Or.symm d_KU), pt_comm (pt (pt X r P) w K) U B (Or.symm d_BU), pt_comm X P K (Or.symm d_KP)]
          simp only [Option.bind_some, asI_I]
          exact hR
        · rewrite [if_neg h4]; simp only [if_neg h4] at hR
          try rewrite [fR_ok 0 hK.k]
          try rewrite [Option.bind_some]
          try rewrite [hK.r0]
          try simp only [Option.bind_some]
          try rewrite [fI_ok 1 hP.k]
          try rewrite [Option.bind_some]
          try rewrite [pt_out (x := r) (a := m) (by have := d_PV; omega)]
          try rewrite [pt_out (x := r) (a := n) (by have := d_PU; omega)]
          try rewrite [pt_out (x := r) (a := b) (by have := d_PB; omega)]
          try rewrite [p2_0]
          try simp only [Option.bind_some]
          rewrite [if_pos (show kd (pt (pt (pt (pt (pt X w K) r P) b B) n U) m V, J) w = 7 from hK.k)]
          rw [pt_comm (pt (pt X w K) r P) B U d_BU, pt_comm (pt (pt (pt X w K) r P) n U) B V d_BV, pt_comm X K P d_KP, pt_comm (pt X r P) K U d_KU, pt_comm (pt (pt X r P) n U) K V d_KV]
          rw [s_X7_lastOfWay hK hB d_KB]
          rw [pt_comm (pt (pt X r P) n U) V K (Or.symm d_KV), pt_comm (pt (pt (pt X r P) n U) w K) V B (Or.symm d_BV), pt_comm (pt X r P) U K (Or.symm d_KU), pt_comm (pt (pt X r P) w K) U B (Or.symm d_BU), pt_comm X P K (Or.symm d_KP)]
          simp only [Option.bind_some, asI_I]
          exact hR
      · rewrite [if_neg h3]; simp only [if_neg h3] at hR
        try rewrite [wZ_ok 6 _ hK.k (by decide)]
        try rewrite [Option.bind_some]
        try rewrite [up_out (x := w) (a := m) (by have := d_KV; omega)]
        try rewrite [up_out (x := w) (a := n) (by have := d_KU; omega)]
        try rewrite [up_out (x := w) (a := b) (by have := d_KB; omega)]
        try rewrite [up_out (x := w) (a := r) (by have := d_KP; omega)]
        try rewrite [u1_0]
        try simp only [Option.bind_some]
        rewrite [if_pos (show kd (pt (pt (pt (pt (pt X w (uv K 0 6 1)) r P) b B) n U) m V, J) w = 7 from hK.k)]
        rw [pt_comm (pt (pt X w (uv K 0 6 1)) r P) B U d_BU, pt_comm X (uv K 0 6 1) P d_KP, pt_comm (pt X r P) (uv K 0 6 1) U d_KU]
        rw [s_X7_holdAll hK hB hM d_KB d_KV d_BV]
        rw [pt_comm (pt X r P) U (uv K 0 6 1) (Or.symm d_KU), pt_comm (pt (pt X r P) w (uv K 0 6 1)) U B (Or.symm d_BU), pt_comm X P (uv K 0 6 1) (Or.symm d_KP)]
        simp only [Option.bind_some, asV_n]
        try rewrite [fI_ok 7 hK.k]
        try rewrite [Option.bind_some]
        try rewrite [pt_out (x := w) (a := m) (by have := d_KV; omega)]
        try rewrite [pt_out (x := w) (a := n) (by have := d_KU; omega)]
        try rewrite [pt_out (x := w) (a := b) (by have := d_KB; omega)]
        try rewrite [pt_out (x := w) (a := r) (by have := d_KP; omega)]
        try rewrite [p1_0]
        try rewrite [uv_n _ _ _ _ _ _ (by decide)]
        by_cases h5 : (K 0 7) < 3
        · rewrite [if_pos h5]; simp only [if_pos h5] at hR
          try simp only [Option.bind_some]
          rewrite [if_pos (show kd (pt (pt (pt (pt (pt X w (uv K 0 6 1)) r P) b B) n U) m (gV_X7_holdAll (uv K 0 6 1) B V), J) w = 7 from hK.k)]
          rw [pt_comm (pt (pt X w (uv K 0 6 1)) r P) B U d_BU, pt_comm (pt (pt (pt X w (uv K 0 6 1)) r P) n U) B (gV_X7_holdAll (uv K 0 6 1) B V) d_BV, pt_comm X (uv K 0 6 1) P d_KP, pt_comm (pt X r P) (uv K 0 6 1) U d_KU, pt_comm (pt (pt X r P) n U) (uv K 0 6 1) (gV_X7_holdAll (uv K 0 6 1) B V) d_KV]
          rw [s_X7_lastOfWay hK hB d_KB]
          rw [pt_comm (pt (pt X r P) n U) (gV_X7_holdAll (uv K 0 6 1) B V) (uv K 0 6 1) (Or.symm d_KV), pt_comm (pt (pt (pt X r P) n U) w (uv K 0 6 1)) (gV_X7_holdAll (uv K 0 6 1) B V) B (Or.symm d_BV), pt_comm (pt X r P) U (uv K 0 6 1) (Or.symm d_KU), pt_comm (pt (pt X r P) w (uv K 0 6 1)) U B (Or.symm d_BU), pt_comm X P (uv K 0 6 1) (Or.symm d_KP)]
          simp only [Option.bind_some, asI_I]
          exact hR
        · rewrite [if_neg h5]; simp only [if_neg h5] at hR
          try rewrite [fR_ok 0 hK.k]
          try rewrite [Option.bind_some]
          try rewrite [hK.r0]
          try simp only [Option.bind_some]
          try rewrite [fI_ok 1 hP.k]
          try rewrite [Option.bind_some]
          try rewrite [pt_out (x := r) (a := m) (by have := d_PV; omega)]
          try rewrite [pt_out (x := r) (a := n) (by have := d_PU; omega)]
          try rewrite [pt_out (x := r) (a := b) (by have := d_PB; omega)]
          try rewrite [p2_0]
          try simp only [Option.bind_some]
          rewrite [if_pos (show kd (pt (pt (pt (pt (pt X w (uv K 0 6 1)) r P) b B) n U) m (gV_X7_holdAll (uv K 0 6 1) B V), J) w = 7 from hK.k)]
          rw [pt_comm (pt (pt X w (uv K 0 6 1)) r P) B U d_BU, pt_comm (pt (pt (pt X w (uv K 0 6 1)) r P) n U) B (gV_X7_holdAll (uv K 0 6 1) B V) d_BV, pt_comm X (uv K 0 6 1) P d_KP, pt_comm (pt X r P) (uv K 0 6 1) U d_KU, pt_comm (pt (pt X r P) n U) (uv K 0 6 1) (gV_X7_holdAll (uv K 0 6 1) B V) d_KV]
          rw [s_X7_lastOfWay hK hB d_KB]
          rw [pt_comm (pt (pt X r P) n U) (gV_X7_holdAll (uv K 0 6 1) B V) (uv K 0 6 1) (Or.symm d_KV), pt_comm (pt (pt (pt X r P) n U) w (uv K 0 6 1)) (gV_X7_holdAll (uv K 0 6 1) B V) B (Or.symm d_BV), pt_comm (pt X r P) U (uv K 0 6 1) (Or.symm d_KU), pt_comm (pt (pt X r P) w (uv K 0 6 1)) U B (Or.symm d_BU), pt_comm X P (uv K 0 6 1) (Or.symm d_KP)]
          simp only [Option.bind_some, asI_I]
          exact hR
    · rewrite [if_neg h2]; simp only [if_neg h2] at hR
      try rewrite [fI_ok 7 hK.k]
      try rewrite [Option.bind_some]
      try rewrite [pt_out (x := w) (a := m) (by have := d_KV; omega)]
      try rewrite [pt_out (x := w) (a := n) (by have := d_KU; omega)]
      try rewrite [pt_out (x := w) (a := b) (by have := d_KB; omega)]
      try rewrite [pt_out (x := w) (a := r) (by have := d_KP; omega)]
      try rewrite [p1_0]
      by_cases h6 : (K 0 7) < 3
      · rewrite [if_pos h6]; simp only [if_pos h6] at hR
        try simp only [Option.bind_some]
        rewrite [if_pos (show kd (pt (pt (pt (pt (pt X w K) r P) b B) n U) m V, J) w = 7 from hK.k)]
        rw [pt_comm (pt (pt X w K) r P) B U d_BU, pt_comm (pt (pt (pt X w K) r P) n U) B V d_BV, pt_comm X K P d_KP, pt_comm (pt X r P) K U d_KU, pt_comm (pt (pt X r P) n U) K V d_KV]
        rw [s_X7_lastOfWay hK hB d_KB]
        rw [pt_comm (pt (pt X r P) n U) V K (Or.symm d_KV), pt_comm (pt (pt (pt X r P) n U) w K) V B (Or.symm d_BV), pt_comm (pt X r P) U K (Or.symm d_KU), pt_comm (pt (pt X r P) w K) U B (Or.symm d_BU), pt_comm X P K (Or.symm d_KP)]
        simp only [Option.bind_some, asI_I]
        exact hR
      · rewrite [if_neg h6]; simp only [if_neg h6] at hR
        try rewrite [fR_ok 0 hK.k]
        try rewrite [Option.bind_some]
        try rewrite [hK.r0]
        try simp only [Option.bind_some]
        try rewrite [fI_ok 1 hP.k]
        try rewrite [Option.bind_some]
        try rewrite [pt_out (x := r) (a := m) (by have := d_PV; omega)]
        try rewrite [pt_out (x := r) (a := n) (by have := d_PU; omega)]
        try rewrite [pt_out (x := r) (a := b) (by have := d_PB; omega)]
        try rewrite [p2_0]
        try simp only [Option.bind_some]
        rewrite [if_pos (show kd (pt (pt (pt (pt (pt X w K) r P) b B) n U) m V, J) w = 7 from hK.k)]
        rw [pt_comm (pt (pt X w K) r P) B U d_BU, pt_comm (pt (pt (pt X w K) r P) n U) B V d_BV, pt_comm X K P d_KP, pt_comm (pt X r P) K U d_KU, pt_comm (pt (pt X r P) n U) K V d_KV]
        rw [s_X7_lastOfWay hK hB d_KB]
        rw [pt_comm (pt (pt X r P) n U) V K (Or.symm d_KV), pt_comm (pt (pt (pt X r P) n U) w K) V B (Or.symm d_BV), pt_comm (pt X r P) U K (Or.symm d_KU), pt_comm (pt (pt X r P) w K) U B (Or.symm d_BU), pt_comm X P K (Or.symm d_KP)]
        simp only [Option.bind_some, asI_I]
        exact hR
  · rewrite [if_neg h1]; simp only [if_neg h1] at hR
    try simp only [Option.bind_some]
    rewrite [if_pos (show kd (pt (pt (pt (pt (pt X w K) r P) b B) n U) m V, J) w = 7 from hK.k)]
    rw [pt_comm (pt (pt X w K) r P) B U d_BU, pt_comm X K P d_KP, pt_comm (pt X r P) K U d_KU]
    rw [s_X7_letGo hK hB hM d_KB d_KV d_BV]
    rw [pt_comm (pt X r P) U K (Or.symm d_KU), pt_comm (pt (pt X r P) w K) U B (Or.symm d_BU), pt_comm X P K (Or.symm d_KP)]
    simp only [Option.bind_some, asV_n]
    try rewrite [fI_ok 7 hK.k]
    try rewrite [Option.bind_some]
    try rewrite [pt_out (x := w) (a := m) (by have := d_KV; omega)]
    try rewrite [pt_out (x := w) (a := n) (by have := d_KU; omega)]
    try rewrite [pt_out (x := w) (a := b) (by have := d_KB; omega)]
    try rewrite [pt_out (x := w) (a := r) (by have := d_KP; omega)]
    try rewrite [p1_0]
    try rewrite [wI_ok 7 _ hK.k]
    try rewrite [Option.bind_some]
    try rewrite [up_out (x := w) (a := m) (by have := d_KV; omega)]
    try rewrite [up_out (x := w) (a := n) (by have := d_KU; omega)]
    try rewrite [up_out (x := w) (a := b) (by have := d_KB; omega)]
    try rewrite [up_out (x := w) (a := r) (by have := d_KP; omega)]
    try rewrite [u1_0]
    try rewrite [wZ_ok 6 _ hK.k (by decide)]
    try rewrite [Option.bind_some]
    try rewrite [up_out (x := w) (a := m) (by have := d_KV; omega)]
    try rewrite [up_out (x := w) (a := n) (by have := d_KU; omega)]
    try rewrite [up_out (x := w) (a := b) (by have := d_KB; omega)]
    try rewrite [up_out (x := w) (a := r) (by have := d_KP; omega)]
    try rewrite [u1_0]
    try simp only [Option.bind_some]
    rewrite [if_pos (show kd (pt (pt (pt (pt (pt X w (uv (uv K 0 7 ((K 0 7) + 1)) 0 6 1)) r P) b B) n U) m (gV_X7_letGo K B V), J) w = 7 from hK.k)]
    rw [pt_comm (pt (pt X w (uv (uv K 0 7 ((K 0 7) + 1)) 0 6 1)) r P) B U d_BU, pt_comm X (uv (uv K 0 7 ((K 0 7) + 1)) 0 6 1) P d_KP, pt_comm (pt X r P) (uv (uv K 0 7 ((K 0 7) + 1)) 0 6 1) U d_KU]
    rw [s_X7_goToRoot hK hB hM d_KB d_KV d_BV]
    rw [pt_comm (pt X r P) U (gK_X7_goToRoot (uv (uv K 0 7 ((K 0 7) + 1)) 0 6 1) B (gV_X7_letGo K B V)) (Or.symm d_KU), pt_comm (pt (pt X r P) w (gK_X7_goToRoot (uv (uv K 0 7 ((K 0 7) + 1)) 0 6 1) B (gV_X7_letGo K B V))) U (gB_X7_goToRoot (uv (uv K 0 7 ((K 0 7) + 1)) 0 6 1) B (gV_X7_letGo K B V)) (Or.symm d_BU), pt_comm X P (gK_X7_goToRoot (uv (uv K 0 7 ((K 0 7) + 1)) 0 6 1) B (gV_X7_letGo K B V)) (Or.symm d_KP)]
    simp only [Option.bind_some, asV_n]
    try rewrite [fI_ok 7 hK.k]
    try rewrite [Option.bind_some]
    try rewrite [pt_out (x := w) (a := m) (by have := d_KV; omega)]
    try rewrite [pt_out (x := w) (a := n) (by have := d_KU; omega)]
    try rewrite [pt_out (x := w) (a := b) (by have := d_KB; omega)]
    try rewrite [pt_out (x := w) (a := r) (by have := d_KP; omega)]
    try rewrite [p1_0]
    by_cases h7 : ((gK_X7_goToRoot (uv (uv K 0 7 ((K 0 7) + 1)) 0 6 1) B (gV_X7_letGo K B V)) 0 7) < 3
    · rewrite [if_pos h7]; simp only [if_pos h7] at hR
      try simp only [Option.bind_some]
      rewrite [if_pos (show kd (pt (pt (pt (pt (pt X w (gK_X7_goToRoot (uv (uv K 0 7 ((K 0 7) + 1)) 0 6 1) B (gV_X7_letGo K B V))) r P) b (gB_X7_goToRoot (uv (uv K 0 7 ((K 0 7) + 1)) 0 6 1) B (gV_X7_letGo K B V))) n U) m (gV_X7_goToRoot (uv (uv K 0 7 ((K 0 7) + 1)) 0 6 1) B (gV_X7_letGo K B V)), J) w = 7 from hK.k)]
      rw [pt_comm (pt (pt X w (gK_X7_goToRoot (uv (uv K 0 7 ((K 0 7) + 1)) 0 6 1) B (gV_X7_letGo K B V))) r P) (gB_X7_goToRoot (uv (uv K 0 7 ((K 0 7) + 1)) 0 6 1) B (gV_X7_letGo K B V)) U d_BU, pt_comm (pt (pt (pt X w (gK_X7_goToRoot (uv (uv K 0 7 ((K 0 7) + 1)) 0 6 1) B (gV_X7_letGo K B V))) r P) n U) (gB_X7_goToRoot (uv (uv K 0 7 ((K 0 7) + 1)) 0 6 1) B (gV_X7_letGo K B V)) (gV_X7_goToRoot (uv (uv K 0 7 ((K 0 7) + 1)) 0 6 1) B (gV_X7_letGo K B V)) d_BV, pt_comm X (gK_X7_goToRoot (uv (uv K 0 7 ((K 0 7) + 1)) 0 6 1) B (gV_X7_letGo K B V)) P d_KP, pt_comm (pt X r P) (gK_X7_goToRoot (uv (uv K 0 7 ((K 0 7) + 1)) 0 6 1) B (gV_X7_letGo K B V)) U d_KU, pt_comm (pt (pt X r P) n U) (gK_X7_goToRoot (uv (uv K 0 7 ((K 0 7) + 1)) 0 6 1) B (gV_X7_letGo K B V)) (gV_X7_goToRoot (uv (uv K 0 7 ((K 0 7) + 1)) 0 6 1) B (gV_X7_letGo K B V)) d_KV]
      rw [s_X7_lastOfWay hK hB d_KB]
      rw [pt_comm (pt (pt X r P) n U) (gV_X7_goToRoot (uv (uv K 0 7 ((K 0 7) + 1)) 0 6 1) B (gV_X7_letGo K B V)) (gK_X7_goToRoot (uv (uv K 0 7 ((K 0 7) + 1)) 0 6 1) B (gV_X7_letGo K B V)) (Or.symm d_KV), pt_comm (pt (pt (pt X r P) n U) w (gK_X7_goToRoot (uv (uv K 0 7 ((K 0 7) + 1)) 0 6 1) B (gV_X7_letGo K B V))) (gV_X7_goToRoot (uv (uv K 0 7 ((K 0 7) + 1)) 0 6 1) B (gV_X7_letGo K B V)) (gB_X7_goToRoot (uv (uv K 0 7 ((K 0 7) + 1)) 0 6 1) B (gV_X7_letGo K B V)) (Or.symm d_BV), pt_comm (pt X r P) U (gK_X7_goToRoot (uv (uv K 0 7 ((K 0 7) + 1)) 0 6 1) B (gV_X7_letGo K B V)) (Or.symm d_KU), pt_comm (pt (pt X r P) w (gK_X7_goToRoot (uv (uv K 0 7 ((K 0 7) + 1)) 0 6 1) B (gV_X7_letGo K B V))) U (gB_X7_goToRoot (uv (uv K 0 7 ((K 0 7) + 1)) 0 6 1) B (gV_X7_letGo K B V)) (Or.symm d_BU), pt_comm X P (gK_X7_goToRoot (uv (uv K 0 7 ((K 0 7) + 1)) 0 6 1) B (gV_X7_letGo K B V)) (Or.symm d_KP)]
      simp only [Option.bind_some, asI_I]
      exact hR
    · rewrite [if_neg h7]; simp only [if_neg h7] at hR
      try rewrite [fR_ok 0 hK.k]
      try rewrite [Option.bind_some]
      try rewrite [hK.r0]
      try simp only [Option.bind_some]
      try rewrite [fI_ok 1 hP.k]
      try rewrite [Option.bind_some]
      try rewrite [pt_out (x := r) (a := m) (by have := d_PV; omega)]
      try rewrite [pt_out (x := r) (a := n) (by have := d_PU; omega)]
      try rewrite [pt_out (x := r) (a := b) (by have := d_PB; omega)]
      try rewrite [p2_0]
      try simp only [Option.bind_some]
      rewrite [if_pos (show kd (pt (pt (pt (pt (pt X w (gK_X7_goToRoot (uv (uv K 0 7 ((K 0 7) + 1)) 0 6 1) B (gV_X7_letGo K B V))) r P) b (gB_X7_goToRoot (uv (uv K 0 7 ((K 0 7) + 1)) 0 6 1) B (gV_X7_letGo K B V))) n U) m (gV_X7_goToRoot (uv (uv K 0 7 ((K 0 7) + 1)) 0 6 1) B (gV_X7_letGo K B V)), J) w = 7 from hK.k)]
      rw [pt_comm (pt (pt X w (gK_X7_goToRoot (uv (uv K 0 7 ((K 0 7) + 1)) 0 6 1) B (gV_X7_letGo K B V))) r P) (gB_X7_goToRoot (uv (uv K 0 7 ((K 0 7) + 1)) 0 6 1) B (gV_X7_letGo K B V)) U d_BU, pt_comm (pt (pt (pt X w (gK_X7_goToRoot (uv (uv K 0 7 ((K 0 7) + 1)) 0 6 1) B (gV_X7_letGo K B V))) r P) n U) (gB_X7_goToRoot (uv (uv K 0 7 ((K 0 7) + 1)) 0 6 1) B (gV_X7_letGo K B V)) (gV_X7_goToRoot (uv (uv K 0 7 ((K 0 7) + 1)) 0 6 1) B (gV_X7_letGo K B V)) d_BV, pt_comm X (gK_X7_goToRoot (uv (uv K 0 7 ((K 0 7) + 1)) 0 6 1) B (gV_X7_letGo K B V)) P d_KP, pt_comm (pt X r P) (gK_X7_goToRoot (uv (uv K 0 7 ((K 0 7) + 1)) 0 6 1) B (gV_X7_letGo K B V)) U d_KU, pt_comm (pt (pt X r P) n U) (gK_X7_goToRoot (uv (uv K 0 7 ((K 0 7) + 1)) 0 6 1) B (gV_X7_letGo K B V)) (gV_X7_goToRoot (uv (uv K 0 7 ((K 0 7) + 1)) 0 6 1) B (gV_X7_letGo K B V)) d_KV]
      rw [s_X7_lastOfWay hK hB d_KB]
      rw [pt_comm (pt (pt X r P) n U) (gV_X7_goToRoot (uv (uv K 0 7 ((K 0 7) + 1)) 0 6 1) B (gV_X7_letGo K B V)) (gK_X7_goToRoot (uv (uv K 0 7 ((K 0 7) + 1)) 0 6 1) B (gV_X7_letGo K B V)) (Or.symm d_KV), pt_comm (pt (pt (pt X r P) n U) w (gK_X7_goToRoot (uv (uv K 0 7 ((K 0 7) + 1)) 0 6 1) B (gV_X7_letGo K B V))) (gV_X7_goToRoot (uv (uv K 0 7 ((K 0 7) + 1)) 0 6 1) B (gV_X7_letGo K B V)) (gB_X7_goToRoot (uv (uv K 0 7 ((K 0 7) + 1)) 0 6 1) B (gV_X7_letGo K B V)) (Or.symm d_BV), pt_comm (pt X r P) U (gK_X7_goToRoot (uv (uv K 0 7 ((K 0 7) + 1)) 0 6 1) B (gV_X7_letGo K B V)) (Or.symm d_KU), pt_comm (pt (pt X r P) w (gK_X7_goToRoot (uv (uv K 0 7 ((K 0 7) + 1)) 0 6 1) B (gV_X7_letGo K B V))) U (gB_X7_goToRoot (uv (uv K 0 7 ((K 0 7) + 1)) 0 6 1) B (gV_X7_letGo K B V)) (Or.symm d_BU), pt_comm X P (gK_X7_goToRoot (uv (uv K 0 7 ((K 0 7) + 1)) 0 6 1) B (gV_X7_letGo K B V)) (Or.symm d_KP)]
      simp only [Option.bind_some, asI_I]
      exact hR
theorem P_X7_goOn_89 {J : MJ} {w r b L n m : Nat} (hK : WalL J w r b) (hP : RouL J r L) (hB : BufL J b) (hN : NodL J n) (hM : MemL J m n) (d_KP : w + 1 ≤ r ∨ r + 2 ≤ w) (d_KB : w + 1 ≤ b ∨ b + 3 ≤ w) (d_KU : w + 1 ≤ n ∨ n + 6 ≤ w) (d_KV : w + 1 ≤ m ∨ m + 12 ≤ w) (d_PB : r + 2 ≤ b ∨ b + 3 ≤ r) (d_PU : r + 2 ≤ n ∨ n + 6 ≤ r) (d_PV : r + 2 ≤ m ∨ m + 12 ≤ r) (d_BU : b + 3 ≤ n ∨ n + 6 ≤ b) (d_BV : b + 3 ≤ m ∨ m + 12 ≤ b) (d_UV : n + 6 ≤ m ∨ m + 12 ≤ n) (X : MI) (K : OneV) (P : RouV) (B : TriV) (U : NodV) (V : MemV) (x2 : Int32) (x3 : Int32) (x4 : Int32) : Ev T_X7_goOn 89 [some (mR (some w)), some (mR (some m)), some (mI x2), some (mI x3), some (mI x4)] [] (pt (pt (pt (pt (pt X w K) r P) b B) n U) m V, J) = (if x2 ≤ x4 then some (some (mI x3), (pt (pt (pt (pt (pt X w K) r P) b B) n U) m V, J)) else (if x3 < 0 then some (some (mI x3), (pt (pt (pt (pt (pt X w K) r P) b B) n U) m V, J)) else (if (q_X7_isThrough L K P) = 0 then Ev T_X7_goOn 89 [some (mR (some w)), some (mR (some m)), some (mI x2), some (mI (q_X1_stepFrom U V x3 (q_X4_stepAt L P (K 0 8)))), some (mI (x4 + 1))] [] (pt (pt (pt (pt (pt X w (gK_X7_takeTrail (uv K 0 8 ((K 0 8) + 1)) B (gV_X1_stepFrom U V x3 (q_X4_stepAt L P (K 0 8))))) r P) b (gB_X7_takeTrail (uv K 0 8 ((K 0 8) + 1)) B (gV_X1_stepFrom U V x3 (q_X4_stepAt L P (K 0 8))))) n U) m (gV_X7_takeTrail (uv K 0 8 ((K 0 8) + 1)) B (gV_X1_stepFrom U V x3 (q_X4_stepAt L P (K 0 8)))), J) else some (some (mI x3), (pt (pt (pt (pt (pt X w K) r P) b B) n U) m V, J))))) := by
  generalize hR : (if x2 ≤ x4 then some (some (mI x3), (pt (pt (pt (pt (pt X w K) r P) b B) n U) m V, J)) else (if x3 < 0 then some (some (mI x3), (pt (pt (pt (pt (pt X w K) r P) b B) n U) m V, J)) else (if (q_X7_isThrough L K P) = 0 then Ev T_X7_goOn 89 [some (mR (some w)), some (mR (some m)), some (mI x2), some (mI (q_X1_stepFrom U V x3 (q_X4_stepAt L P (K 0 8)))), some (mI (x4 + 1))] [] (pt (pt (pt (pt (pt X w (gK_X7_takeTrail (uv K 0 8 ((K 0 8) + 1)) B (gV_X1_stepFrom U V x3 (q_X4_stepAt L P (K 0 8))))) r P) b (gB_X7_takeTrail (uv K 0 8 ((K 0 8) + 1)) B (gV_X1_stepFrom U V x3 (q_X4_stepAt L P (K 0 8))))) n U) m (gV_X7_takeTrail (uv K 0 8 ((K 0 8) + 1)) B (gV_X1_stepFrom U V x3 (q_X4_stepAt L P (K 0 8)))), J) else some (some (mI x3), (pt (pt (pt (pt (pt X w K) r P) b B) n U) m V, J))))) = R
  rw [E_X7_goOn_89]
  by_cases h1 : x2 ≤ x4
  · rewrite [if_pos h1]; simp only [if_pos h1] at hR
    exact hR
  · rewrite [if_neg h1]; simp only [if_neg h1] at hR
    by_cases h2 : x3 < 0
    · rewrite [if_pos h2]; simp only [if_pos h2] at hR
      exact hR
    · rewrite [if_neg h2]; simp only [if_neg h2] at hR
      try simp only [Option.bind_some]
      rewrite [if_pos (show kd (pt (pt (pt (pt (pt X w K) r P) b B) n U) m V, J) w = 7 from hK.k)]
      rw [pt_comm (pt X w K) P B d_PB, pt_comm (pt (pt X w K) b B) P U d_PU, pt_comm (pt (pt (pt X w K) b B) n U) P V d_PV, pt_comm X K B d_KB, pt_comm (pt X b B) K U d_KU, pt_comm (pt (pt X b B) n U) K V d_KV]
      rw [s_X7_isThrough hK hP d_KP]
      rw [pt_comm (pt (pt X b B) n U) V K (Or.symm d_KV), pt_comm (pt (pt (pt X b B) n U) w K) V P (Or.symm d_PV), pt_comm (pt X b B) U K (Or.symm d_KU), pt_comm (pt (pt X b B) w K) U P (Or.symm d_PU), pt_comm X B K (Or.symm d_KB), pt_comm (pt X w K) B P (Or.symm d_PB)]
      simp only [Option.bind_some, asI_I]
      by_cases h3 : (q_X7_isThrough L K P) = 0
      · rewrite [if_pos h3]; simp only [if_pos h3] at hR
        try rewrite [fR_ok 0 hK.k]
        try rewrite [Option.bind_some]
        try rewrite [hK.r0]
        try rewrite [fI_ok 8 hK.k]
        try rewrite [Option.bind_some]
        try rewrite [pt_out (x := w) (a := m) (by have := d_KV; omega)]
        try rewrite [pt_out (x := w) (a := n) (by have := d_KU; omega)]
        try rewrite [pt_out (x := w) (a := b) (by have := d_KB; omega)]
        try rewrite [pt_out (x := w) (a := r) (by have := d_KP; omega)]
        try rewrite [p1_0]
        try simp only [Option.bind_some]
        rewrite [if_pos (show kd (pt (pt (pt (pt (pt X w K) r P) b B) n U) m V, J) r = 4 from hP.k)]
        rw [pt_comm (pt X w K) P B d_PB, pt_comm (pt (pt X w K) b B) P U d_PU, pt_comm (pt (pt (pt X w K) b B) n U) P V d_PV]
        rw [s_X4_stepAt hP]
        rw [pt_comm (pt (pt (pt X w K) b B) n U) V P (Or.symm d_PV), pt_comm (pt (pt X w K) b B) U P (Or.symm d_PU), pt_comm (pt X w K) B P (Or.symm d_PB)]
        simp only [Option.bind_some, asI_I]
        try simp only [Option.bind_some]
        rewrite [if_pos (show kd (pt (pt (pt (pt (pt X w K) r P) b B) n U) m V, J) m = 1 from hM.k)]
        rewrite [s_X1_stepFrom hN hM d_UV]
        simp only [Option.bind_some, asI_I]
        try rewrite [fI_ok 8 hK.k]
        try rewrite [Option.bind_some]
        try rewrite [pt_out (x := w) (a := m) (by have := d_KV; omega)]
        try rewrite [pt_out (x := w) (a := n) (by have := d_KU; omega)]
        try rewrite [pt_out (x := w) (a := b) (by have := d_KB; omega)]
        try rewrite [pt_out (x := w) (a := r) (by have := d_KP; omega)]
        try rewrite [p1_0]
        try rewrite [wI_ok 8 _ hK.k]
        try rewrite [Option.bind_some]
        try rewrite [up_out (x := w) (a := m) (by have := d_KV; omega)]
        try rewrite [up_out (x := w) (a := n) (by have := d_KU; omega)]
        try rewrite [up_out (x := w) (a := b) (by have := d_KB; omega)]
        try rewrite [up_out (x := w) (a := r) (by have := d_KP; omega)]
        try rewrite [u1_0]
        try simp only [Option.bind_some]
        rewrite [if_pos (show kd (pt (pt (pt (pt (pt X w (uv K 0 8 ((K 0 8) + 1))) r P) b B) n U) m (gV_X1_stepFrom U V x3 (q_X4_stepAt L P (K 0 8))), J) w = 7 from hK.k)]
        rw [pt_comm (pt (pt X w (uv K 0 8 ((K 0 8) + 1))) r P) B U d_BU, pt_comm X (uv K 0 8 ((K 0 8) + 1)) P d_KP, pt_comm (pt X r P) (uv K 0 8 ((K 0 8) + 1)) U d_KU]
        rw [s_X7_takeTrail hK hB hM d_KB d_KV d_BV]
        rw [pt_comm (pt X r P) U (gK_X7_takeTrail (uv K 0 8 ((K 0 8) + 1)) B (gV_X1_stepFrom U V x3 (q_X4_stepAt L P (K 0 8)))) (Or.symm d_KU), pt_comm (pt (pt X r P) w (gK_X7_takeTrail (uv K 0 8 ((K 0 8) + 1)) B (gV_X1_stepFrom U V x3 (q_X4_stepAt L P (K 0 8))))) U (gB_X7_takeTrail (uv K 0 8 ((K 0 8) + 1)) B (gV_X1_stepFrom U V x3 (q_X4_stepAt L P (K 0 8)))) (Or.symm d_BU), pt_comm X P (gK_X7_takeTrail (uv K 0 8 ((K 0 8) + 1)) B (gV_X1_stepFrom U V x3 (q_X4_stepAt L P (K 0 8)))) (Or.symm d_KP)]
        simp only [Option.bind_some, asV_n]
        exact hR
      · rewrite [if_neg h3]; simp only [if_neg h3] at hR
        exact hR
def lp_X7_goOn_89 (L : Nat) (P : RouV) (U : NodV) (x2 : Int32) : Nat → Nat → Int32 → OneV → TriV → MemV → Int32 × OneV × TriV × MemV
  | 0, k, x3, K, B, V => (x3, K, B, V)
  | nn + 1, k, x3, K, B, V => (if x3 < 0 then (x3, K, B, V) else (if (q_X7_isThrough L K P) = 0 then lp_X7_goOn_89 L P U x2 nn (k + 1) (q_X1_stepFrom U V x3 (q_X4_stepAt L P (K 0 8))) (gK_X7_takeTrail (uv K 0 8 ((K 0 8) + 1)) B (gV_X1_stepFrom U V x3 (q_X4_stepAt L P (K 0 8)))) (gB_X7_takeTrail (uv K 0 8 ((K 0 8) + 1)) B (gV_X1_stepFrom U V x3 (q_X4_stepAt L P (K 0 8)))) (gV_X7_takeTrail (uv K 0 8 ((K 0 8) + 1)) B (gV_X1_stepFrom U V x3 (q_X4_stepAt L P (K 0 8)))) else (x3, K, B, V)))
theorem lr_X7_goOn_89 {J : MJ} {w r b L n m : Nat} (hK : WalL J w r b) (hP : RouL J r L) (hB : BufL J b) (hN : NodL J n) (hM : MemL J m n) (d_KP : w + 1 ≤ r ∨ r + 2 ≤ w) (d_KB : w + 1 ≤ b ∨ b + 3 ≤ w) (d_KU : w + 1 ≤ n ∨ n + 6 ≤ w) (d_KV : w + 1 ≤ m ∨ m + 12 ≤ w) (d_PB : r + 2 ≤ b ∨ b + 3 ≤ r) (d_PU : r + 2 ≤ n ∨ n + 6 ≤ r) (d_PV : r + 2 ≤ m ∨ m + 12 ≤ r) (d_BU : b + 3 ≤ n ∨ n + 6 ≤ b) (d_BV : b + 3 ≤ m ∨ m + 12 ≤ b) (d_UV : n + 6 ≤ m ∨ m + 12 ≤ n) (X : MI) (P : RouV) (U : NodV) (x2 : Int32) : ∀ (nn k : Nat) (x3 : Int32) (K : OneV) (B : TriV) (V : MemV), k + nn = (ix x2) → Ev T_X7_goOn 89 [some (mR (some w)), some (mR (some m)), some (mI x2), some (mI x3), some (mI (nI k))] [] (pt (pt (pt (pt (pt X w K) r P) b B) n U) m V, J) = some (some (mI ((lp_X7_goOn_89 L P U x2 nn k x3 K B V).1)), (pt (pt (pt (pt (pt X w ((lp_X7_goOn_89 L P U x2 nn k x3 K B V).2.1)) r P) b ((lp_X7_goOn_89 L P U x2 nn k x3 K B V).2.2.1)) n U) m ((lp_X7_goOn_89 L P U x2 nn k x3 K B V).2.2.2), J)) := by
  intro nn
  induction nn with
  | zero =>
    intro k x3 K B V hk
    have hk : k = (ix x2) := by omega
    subst hk
    generalize hR : some (some (mI ((lp_X7_goOn_89 L P U x2 0 (ix x2) x3 K B V).1)), (pt (pt (pt (pt (pt X w ((lp_X7_goOn_89 L P U x2 0 (ix x2) x3 K B V).2.1)) r P) b ((lp_X7_goOn_89 L P U x2 0 (ix x2) x3 K B V).2.2.1)) n U) m ((lp_X7_goOn_89 L P U x2 0 (ix x2) x3 K B V).2.2.2), J)) = R
    rw [lp_X7_goOn_89] at hR
    rw [P_X7_goOn_89 hK hP hB hN hM d_KP d_KB d_KU d_KV d_PB d_PU d_PV d_BU d_BV d_UV _ _ _ _ _ _ _ _ _]
    rewrite [if_pos ((le_nI (ix_lt x2)).mpr (Nat.le_refl _))]
    exact hR
  | succ nn ih =>
    intro k x3 K B V hk
    generalize hR : some (some (mI ((lp_X7_goOn_89 L P U x2 (nn + 1) k x3 K B V).1)), (pt (pt (pt (pt (pt X w ((lp_X7_goOn_89 L P U x2 (nn + 1) k x3 K B V).2.1)) r P) b ((lp_X7_goOn_89 L P U x2 (nn + 1) k x3 K B V).2.2.1)) n U) m ((lp_X7_goOn_89 L P U x2 (nn + 1) k x3 K B V).2.2.2), J)) = R
    rw [lp_X7_goOn_89] at hR
    rw [P_X7_goOn_89 hK hP hB hN hM d_KP d_KB d_KU d_KV d_PB d_PU d_PV d_BU d_BV d_UV _ _ _ _ _ _ _ _ _]
    try rw [ix_nI (by have := ix_lt x2; omega)]
    rw [nI_1 k]
    rewrite [if_neg (fun h => by have h2 := (le_nI (by have := ix_lt x2; omega)).mp h; omega)]
    by_cases k1 : x3 < 0
    · rewrite [if_pos k1]; simp only [if_pos k1] at hR
      exact hR
    · rewrite [if_neg k1]; simp only [if_neg k1] at hR
      by_cases k2 : (q_X7_isThrough L K P) = 0
      · rewrite [if_pos k2]; simp only [if_pos k2] at hR
        exact (ih (k + 1) _ _ _ _ (by omega)).trans hR
      · rewrite [if_neg k2]; simp only [if_neg k2] at hR
        exact hR
def o_X7_goOn (L : Nat) (K : OneV) (P : RouV) (B : TriV) (U : NodV) (V : MemV)  : Int32 × OneV × TriV × MemV := (if (q_X7_isChanged K B V) = 0 then (if (bz (K 0 6)) = 0 then (if (q_X7_lacksNext L K P B V) = 0 then (if (K 0 7) < 3 then lp_X7_goOn_89 L P U 1 (ix 1) 0 (q_X7_lastOfWay K B) K B V else lp_X7_goOn_89 L P U (P 0 1) (ix ((P 0 1))) 0 (q_X7_lastOfWay K B) K B V) else (if (K 0 7) < 3 then lp_X7_goOn_89 L P U 1 (ix 1) 0 (q_X7_lastOfWay (uv K 0 6 1) B) (uv K 0 6 1) B (gV_X7_holdAll (uv K 0 6 1) B V) else lp_X7_goOn_89 L P U (P 0 1) (ix ((P 0 1))) 0 (q_X7_lastOfWay (uv K 0 6 1) B) (uv K 0 6 1) B (gV_X7_holdAll (uv K 0 6 1) B V))) else (if (K 0 7) < 3 then lp_X7_goOn_89 L P U 1 (ix 1) 0 (q_X7_lastOfWay K B) K B V else lp_X7_goOn_89 L P U (P 0 1) (ix ((P 0 1))) 0 (q_X7_lastOfWay K B) K B V)) else (if ((gK_X7_goToRoot (uv (uv K 0 7 ((K 0 7) + 1)) 0 6 1) B (gV_X7_letGo K B V)) 0 7) < 3 then lp_X7_goOn_89 L P U 1 (ix 1) 0 (q_X7_lastOfWay (gK_X7_goToRoot (uv (uv K 0 7 ((K 0 7) + 1)) 0 6 1) B (gV_X7_letGo K B V)) (gB_X7_goToRoot (uv (uv K 0 7 ((K 0 7) + 1)) 0 6 1) B (gV_X7_letGo K B V))) (gK_X7_goToRoot (uv (uv K 0 7 ((K 0 7) + 1)) 0 6 1) B (gV_X7_letGo K B V)) (gB_X7_goToRoot (uv (uv K 0 7 ((K 0 7) + 1)) 0 6 1) B (gV_X7_letGo K B V)) (gV_X7_goToRoot (uv (uv K 0 7 ((K 0 7) + 1)) 0 6 1) B (gV_X7_letGo K B V)) else lp_X7_goOn_89 L P U (P 0 1) (ix ((P 0 1))) 0 (q_X7_lastOfWay (gK_X7_goToRoot (uv (uv K 0 7 ((K 0 7) + 1)) 0 6 1) B (gV_X7_letGo K B V)) (gB_X7_goToRoot (uv (uv K 0 7 ((K 0 7) + 1)) 0 6 1) B (gV_X7_letGo K B V))) (gK_X7_goToRoot (uv (uv K 0 7 ((K 0 7) + 1)) 0 6 1) B (gV_X7_letGo K B V)) (gB_X7_goToRoot (uv (uv K 0 7 ((K 0 7) + 1)) 0 6 1) B (gV_X7_letGo K B V)) (gV_X7_goToRoot (uv (uv K 0 7 ((K 0 7) + 1)) 0 6 1) B (gV_X7_letGo K B V))))
def q_X7_goOn (L : Nat) (K : OneV) (P : RouV) (B : TriV) (U : NodV) (V : MemV)  : Int32 := (o_X7_goOn L K P B U V).1
def gK_X7_goOn (L : Nat) (K : OneV) (P : RouV) (B : TriV) (U : NodV) (V : MemV)  : OneV := (o_X7_goOn L K P B U V).2.1
def gB_X7_goOn (L : Nat) (K : OneV) (P : RouV) (B : TriV) (U : NodV) (V : MemV)  : TriV := (o_X7_goOn L K P B U V).2.2.1
def gV_X7_goOn (L : Nat) (K : OneV) (P : RouV) (B : TriV) (U : NodV) (V : MemV)  : MemV := (o_X7_goOn L K P B U V).2.2.2
theorem s_X7_goOn {J : MJ} {w r b L n m : Nat} (hK : WalL J w r b) (hP : RouL J r L) (hB : BufL J b) (hN : NodL J n) (hM : MemL J m n) (d_KP : w + 1 ≤ r ∨ r + 2 ≤ w) (d_KB : w + 1 ≤ b ∨ b + 3 ≤ w) (d_KU : w + 1 ≤ n ∨ n + 6 ≤ w) (d_KV : w + 1 ≤ m ∨ m + 12 ≤ w) (d_PB : r + 2 ≤ b ∨ b + 3 ≤ r) (d_PU : r + 2 ≤ n ∨ n + 6 ≤ r) (d_PV : r + 2 ≤ m ∨ m + 12 ≤ r) (d_BU : b + 3 ≤ n ∨ n + 6 ≤ b) (d_BV : b + 3 ≤ m ∨ m + 12 ≤ b) (d_UV : n + 6 ≤ m ∨ m + 12 ≤ n) (X : MI) (K : OneV) (P : RouV) (B : TriV) (U : NodV) (V : MemV)  : M_X7_goOn [mR (some w), mR (some m)] (pt (pt (pt (pt (pt X w K) r P) b B) n U) m V, J) = some (some (mI (q_X7_goOn L K P B U V)), (pt (pt (pt (pt (pt X w ((gK_X7_goOn L K P B U V))) r P) b ((gB_X7_goOn L K P B U V))) n U) m ((gV_X7_goOn L K P B U V)), J)) := by
  generalize hR : some (some (mI (q_X7_goOn L K P B U V)), (pt (pt (pt (pt (pt X w ((gK_X7_goOn L K P B U V))) r P) b ((gB_X7_goOn L K P B U V))) n U) m ((gV_X7_goOn L K P B U V)), J)) = R
  rw [P_X7_goOn hK hP hB hN hM d_KP d_KB d_KU d_KV d_PB d_PU d_PV d_BU d_BV d_UV]
  unfold q_X7_goOn gK_X7_goOn gB_X7_goOn gV_X7_goOn o_X7_goOn at hR
  by_cases k1 : (q_X7_isChanged K B V) = 0
  · rewrite [if_pos k1]; simp only [if_pos k1] at hR
    by_cases k2 : (bz (K 0 6)) = 0
    · rewrite [if_pos k2]; simp only [if_pos k2] at hR
      by_cases k3 : (q_X7_lacksNext L K P B V) = 0
      · rewrite [if_pos k3]; simp only [if_pos k3] at hR
        by_cases k4 : (K 0 7) < 3
        · rewrite [if_pos k4]; simp only [if_pos k4] at hR
          have z := lr_X7_goOn_89 hK hP hB hN hM d_KP d_KB d_KU d_KV d_PB d_PU d_PV d_BU d_BV d_UV X P U 1 (ix 1) 0 (q_X7_lastOfWay K B) K B V (Nat.zero_add _)
          rw [show nI 0 = 0 from rfl] at z
          rw [z]
          rw [← hR]
        · rewrite [if_neg k4]; simp only [if_neg k4] at hR
          have z := lr_X7_goOn_89 hK hP hB hN hM d_KP d_KB d_KU d_KV d_PB d_PU d_PV d_BU d_BV d_UV X P U (P 0 1) (ix ((P 0 1))) 0 (q_X7_lastOfWay K B) K B V (Nat.zero_add _)
          rw [show nI 0 = 0 from rfl] at z
          rw [z]
          rw [← hR]
      · rewrite [if_neg k3]; simp only [if_neg k3] at hR
        by_cases k4 : (K 0 7) < 3
        · rewrite [if_pos k4]; simp only [if_pos k4] at hR
          have z := lr_X7_goOn_89 hK hP hB hN hM d_KP d_KB d_KU d_KV d_PB d_PU d_PV d_BU d_BV d_UV X P U 1 (ix 1) 0 (q_X7_lastOfWay (uv K 0 6 1) B) (uv K 0 6 1) B (gV_X7_holdAll (uv K 0 6 1) B V) (Nat.zero_add _)
          rw [show nI 0 = 0 from rfl] at z
          rw [z]
          rw [← hR]
        · rewrite [if_neg k4]; simp only [if_neg k4] at hR
          have z := lr_X7_goOn_89 hK hP hB hN hM d_KP d_KB d_KU d_KV d_PB d_PU d_PV d_BU d_BV d_UV X P U (P 0 1) (ix ((P 0 1))) 0 (q_X7_lastOfWay (uv K 0 6 1) B) (uv K 0 6 1) B (gV_X7_holdAll (uv K 0 6 1) B V) (Nat.zero_add _)
          rw [show nI 0 = 0 from rfl] at z
          rw [z]
          rw [← hR]
    · rewrite [if_neg k2]; simp only [if_neg k2] at hR
      by_cases k3 : (K 0 7) < 3
      · rewrite [if_pos k3]; simp only [if_pos k3] at hR
        have z := lr_X7_goOn_89 hK hP hB hN hM d_KP d_KB d_KU d_KV d_PB d_PU d_PV d_BU d_BV d_UV X P U 1 (ix 1) 0 (q_X7_lastOfWay K B) K B V (Nat.zero_add _)
        rw [show nI 0 = 0 from rfl] at z
        rw [z]
        rw [← hR]
      · rewrite [if_neg k3]; simp only [if_neg k3] at hR
        have z := lr_X7_goOn_89 hK hP hB hN hM d_KP d_KB d_KU d_KV d_PB d_PU d_PV d_BU d_BV d_UV X P U (P 0 1) (ix ((P 0 1))) 0 (q_X7_lastOfWay K B) K B V (Nat.zero_add _)
        rw [show nI 0 = 0 from rfl] at z
        rw [z]
        rw [← hR]
  · rewrite [if_neg k1]; simp only [if_neg k1] at hR
    by_cases k2 : ((gK_X7_goToRoot (uv (uv K 0 7 ((K 0 7) + 1)) 0 6 1) B (gV_X7_letGo K B V)) 0 7) < 3
    · rewrite [if_pos k2]; simp only [if_pos k2] at hR
      have z := lr_X7_goOn_89 hK hP hB hN hM d_KP d_KB d_KU d_KV d_PB d_PU d_PV d_BU d_BV d_UV X P U 1 (ix 1) 0 (q_X7_lastOfWay (gK_X7_goToRoot (uv (uv K 0 7 ((K 0 7) + 1)) 0 6 1) B (gV_X7_letGo K B V)) (gB_X7_goToRoot (uv (uv K 0 7 ((K 0 7) + 1)) 0 6 1) B (gV_X7_letGo K B V))) (gK_X7_goToRoot (uv (uv K 0 7 ((K 0 7) + 1)) 0 6 1) B (gV_X7_letGo K B V)) (gB_X7_goToRoot (uv (uv K 0 7 ((K 0 7) + 1)) 0 6 1) B (gV_X7_letGo K B V)) (gV_X7_goToRoot (uv (uv K 0 7 ((K 0 7) + 1)) 0 6 1) B (gV_X7_letGo K B V)) (Nat.zero_add _)
      rw [show nI 0 = 0 from rfl] at z
      rw [z]
      rw [← hR]
    · rewrite [if_neg k2]; simp only [if_neg k2] at hR
      have z := lr_X7_goOn_89 hK hP hB hN hM d_KP d_KB d_KU d_KV d_PB d_PU d_PV d_BU d_BV d_UV X P U (P 0 1) (ix ((P 0 1))) 0 (q_X7_lastOfWay (gK_X7_goToRoot (uv (uv K 0 7 ((K 0 7) + 1)) 0 6 1) B (gV_X7_letGo K B V)) (gB_X7_goToRoot (uv (uv K 0 7 ((K 0 7) + 1)) 0 6 1) B (gV_X7_letGo K B V))) (gK_X7_goToRoot (uv (uv K 0 7 ((K 0 7) + 1)) 0 6 1) B (gV_X7_letGo K B V)) (gB_X7_goToRoot (uv (uv K 0 7 ((K 0 7) + 1)) 0 6 1) B (gV_X7_letGo K B V)) (gV_X7_goToRoot (uv (uv K 0 7 ((K 0 7) + 1)) 0 6 1) B (gV_X7_letGo K B V)) (Nat.zero_add _)
      rw [show nI 0 = 0 from rfl] at z
      rw [z]
      rw [← hR]
def gB_X7_start (L2 : Nat) (L : Nat) (P2 : RouV) (K : OneV) (P : RouV) (B : TriV) (V : MemV) : TriV := gB_X7_goToRoot (uv (uv (uv K 0 5 1) 0 6 0) 0 7 0) B V
def gK_X7_start (L2 : Nat) (L : Nat) (P2 : RouV) (K : OneV) (P : RouV) (B : TriV) (V : MemV) : OneV := gK_X7_goToRoot (uv (uv (uv K 0 5 1) 0 6 0) 0 7 0) B V
def gP_X7_start (L2 : Nat) (L : Nat) (P2 : RouV) (K : OneV) (P : RouV) (B : TriV) (V : MemV) : RouV := gP_X4_copyFrom L2 L P2 P
def gV_X7_start (L2 : Nat) (L : Nat) (P2 : RouV) (K : OneV) (P : RouV) (B : TriV) (V : MemV) : MemV := gV_X7_goToRoot (uv (uv (uv K 0 5 1) 0 6 0) 0 7 0) B V
theorem s_X7_start {J : MJ} {r2 L2 w r b L m n : Nat} (hP2 : RouL J r2 L2) (hK : WalL J w r b) (hP : RouL J r L) (hB : BufL J b) (hM : MemL J m n) (d_P2K : r2 + 2 ≤ w ∨ w + 1 ≤ r2) (d_P2P : r2 + 2 ≤ r ∨ r + 2 ≤ r2) (d_P2B : r2 + 2 ≤ b ∨ b + 3 ≤ r2) (d_P2V : r2 + 2 ≤ m ∨ m + 12 ≤ r2) (d_KP : w + 1 ≤ r ∨ r + 2 ≤ w) (d_KB : w + 1 ≤ b ∨ b + 3 ≤ w) (d_KV : w + 1 ≤ m ∨ m + 12 ≤ w) (d_PB : r + 2 ≤ b ∨ b + 3 ≤ r) (d_PV : r + 2 ≤ m ∨ m + 12 ≤ r) (d_BV : b + 3 ≤ m ∨ m + 12 ≤ b) (X : MI) (P2 : RouV) (K : OneV) (P : RouV) (B : TriV) (V : MemV) : M_X7_start [mR (some w), mR (some r2), mR (some m)] (pt (pt (pt (pt (pt X r2 P2) w K) r P) b B) m V, J) = some (none, (pt (pt (pt (pt (pt X r2 P2) w (gK_X7_start L2 L P2 K P B V)) r (gP_X7_start L2 L P2 K P B V)) b (gB_X7_start L2 L P2 K P B V)) m (gV_X7_start L2 L P2 K P B V), J)) := by
  generalize hR : some (none, (pt (pt (pt (pt (pt X r2 P2) w (gK_X7_start L2 L P2 K P B V)) r (gP_X7_start L2 L P2 K P B V)) b (gB_X7_start L2 L P2 K P B V)) m (gV_X7_start L2 L P2 K P B V), J)) = R
  rw [E_X7_start]
  unfold gB_X7_start gK_X7_start gP_X7_start gV_X7_start at hR
  try rewrite [fR_ok 0 hK.k]
  try rewrite [Option.bind_some]
  try rewrite [hK.r0]
  try simp only [Option.bind_some]
  rewrite [if_pos (show kd (pt (pt (pt (pt (pt X r2 P2) w K) r P) b B) m V, J) r = 4 from hP.k)]
  rw [pt_comm (pt (pt X r2 P2) w K) P B d_PB, pt_comm (pt (pt (pt X r2 P2) w K) b B) P V d_PV, pt_comm X P2 K d_P2K, pt_comm (pt X w K) P2 B d_P2B, pt_comm (pt (pt X w K) b B) P2 V d_P2V]
  rw [s_X4_copyFrom hP2 hP d_P2P]
  rw [pt_comm (pt (pt X w K) b B) V P2 (Or.symm d_P2V), pt_comm (pt (pt (pt X w K) b B) r2 P2) V (gP_X4_copyFrom L2 L P2 P) (Or.symm d_PV), pt_comm (pt X w K) B P2 (Or.symm d_P2B), pt_comm (pt (pt X w K) r2 P2) B (gP_X4_copyFrom L2 L P2 P) (Or.symm d_PB), pt_comm X K P2 (Or.symm d_P2K)]
  simp only [Option.bind_some, asV_n]
  try rewrite [wZ_ok 5 _ hK.k (by decide)]
  try rewrite [Option.bind_some]
  try rewrite [up_out (x := w) (a := m) (by have := d_KV; omega)]
  try rewrite [up_out (x := w) (a := b) (by have := d_KB; omega)]
  try rewrite [up_out (x := w) (a := r) (by have := d_KP; omega)]
  try rewrite [u1_0]
  try rewrite [wZ_ok 6 _ hK.k (by decide)]
  try rewrite [Option.bind_some]
  try rewrite [up_out (x := w) (a := m) (by have := d_KV; omega)]
  try rewrite [up_out (x := w) (a := b) (by have := d_KB; omega)]
  try rewrite [up_out (x := w) (a := r) (by have := d_KP; omega)]
  try rewrite [u1_0]
  try rewrite [wI_ok 7 _ hK.k]
  try rewrite [Option.bind_some]
  try rewrite [up_out (x := w) (a := m) (by have := d_KV; omega)]
  try rewrite [up_out (x := w) (a := b) (by have := d_KB; omega)]
  try rewrite [up_out (x := w) (a := r) (by have := d_KP; omega)]
  try rewrite [u1_0]
  try simp only [Option.bind_some]
  rewrite [if_pos (show kd (pt (pt (pt (pt (pt X r2 P2) w (uv (uv (uv K 0 5 1) 0 6 0) 0 7 0)) r (gP_X4_copyFrom L2 L P2 P)) b B) m V, J) w = 7 from hK.k)]
  rw [pt_comm (pt X r2 P2) (uv (uv (uv K 0 5 1) 0 6 0) 0 7 0) (gP_X4_copyFrom L2 L P2 P) d_KP]
  rw [s_X7_goToRoot hK hB hM d_KB d_KV d_BV]
  rw [pt_comm (pt X r2 P2) (gP_X4_copyFrom L2 L P2 P) (gK_X7_goToRoot (uv (uv (uv K 0 5 1) 0 6 0) 0 7 0) B V) (Or.symm d_KP)]
  simp only [Option.bind_some, asV_n]
  exact hR
def gB_X7_copyFrom (L2 : Nat) (L : Nat) (K2 : OneV) (P2 : RouV) (B2 : TriV) (K : OneV) (P : RouV) (B : TriV) : TriV := cpv (cpv (cpv B 0 25 (B2 0)) 1 25 (B2 1)) 2 25 (B2 2)
def gK_X7_copyFrom (L2 : Nat) (L : Nat) (K2 : OneV) (P2 : RouV) (B2 : TriV) (K : OneV) (P : RouV) (B : TriV) : OneV := uv (uv (uv (uv (uv K 0 4 (K2 0 4)) 0 5 (bz (K2 0 5))) 0 6 (bz (K2 0 6))) 0 7 (K2 0 7)) 0 8 (K2 0 8)
def gP_X7_copyFrom (L2 : Nat) (L : Nat) (K2 : OneV) (P2 : RouV) (B2 : TriV) (K : OneV) (P : RouV) (B : TriV) : RouV := gP_X4_copyFrom L2 L P2 P
theorem s_X7_copyFrom {J : MJ} {w2 r2 b2 L2 w r b L : Nat} (hK2 : WalL J w2 r2 b2) (hP2 : RouL J r2 L2) (hB2 : BufL J b2) (hK : WalL J w r b) (hP : RouL J r L) (hB : BufL J b) (d_K2P2 : w2 + 1 ≤ r2 ∨ r2 + 2 ≤ w2) (d_K2B2 : w2 + 1 ≤ b2 ∨ b2 + 3 ≤ w2) (d_K2K : w2 + 1 ≤ w ∨ w + 1 ≤ w2) (d_K2P : w2 + 1 ≤ r ∨ r + 2 ≤ w2) (d_K2B : w2 + 1 ≤ b ∨ b + 3 ≤ w2) (d_P2B2 : r2 + 2 ≤ b2 ∨ b2 + 3 ≤ r2) (d_P2K : r2 + 2 ≤ w ∨ w + 1 ≤ r2) (d_P2P : r2 + 2 ≤ r ∨ r + 2 ≤ r2) (d_P2B : r2 + 2 ≤ b ∨ b + 3 ≤ r2) (d_B2K : b2 + 3 ≤ w ∨ w + 1 ≤ b2) (d_B2P : b2 + 3 ≤ r ∨ r + 2 ≤ b2) (d_B2B : b2 + 3 ≤ b ∨ b + 3 ≤ b2) (d_KP : w + 1 ≤ r ∨ r + 2 ≤ w) (d_KB : w + 1 ≤ b ∨ b + 3 ≤ w) (d_PB : r + 2 ≤ b ∨ b + 3 ≤ r) (X : MI) (K2 : OneV) (P2 : RouV) (B2 : TriV) (K : OneV) (P : RouV) (B : TriV) : M_X7_copyFrom [mR (some w), mR (some w2)] (pt (pt (pt (pt (pt (pt X w2 K2) r2 P2) b2 B2) w K) r P) b B, J) = some (none, (pt (pt (pt (pt (pt (pt X w2 K2) r2 P2) b2 B2) w (gK_X7_copyFrom L2 L K2 P2 B2 K P B)) r (gP_X7_copyFrom L2 L K2 P2 B2 K P B)) b (gB_X7_copyFrom L2 L K2 P2 B2 K P B), J)) := by
  generalize hR : some (none, (pt (pt (pt (pt (pt (pt X w2 K2) r2 P2) b2 B2) w (gK_X7_copyFrom L2 L K2 P2 B2 K P B)) r (gP_X7_copyFrom L2 L K2 P2 B2 K P B)) b (gB_X7_copyFrom L2 L K2 P2 B2 K P B), J)) = R
  rw [E_X7_copyFrom]
  unfold gB_X7_copyFrom gK_X7_copyFrom gP_X7_copyFrom at hR
  try rewrite [fR_ok 0 hK.k]
  try rewrite [Option.bind_some]
  try rewrite [hK.r0]
  try rewrite [fR_ok 0 hK2.k]
  try rewrite [Option.bind_some]
  try rewrite [hK2.r0]
  try simp only [Option.bind_some]
  rewrite [if_pos (show kd (pt (pt (pt (pt (pt (pt X w2 K2) r2 P2) b2 B2) w K) r P) b B, J) r = 4 from hP.k)]
  rw [pt_comm (pt (pt (pt (pt X w2 K2) r2 P2) b2 B2) w K) P B d_PB, pt_comm (pt X w2 K2) P2 B2 d_P2B2, pt_comm (pt (pt X w2 K2) b2 B2) P2 K d_P2K, pt_comm (pt (pt (pt X w2 K2) b2 B2) w K) P2 B d_P2B]
  rw [s_X4_copyFrom hP2 hP d_P2P]
  rw [pt_comm (pt (pt (pt X w2 K2) b2 B2) w K) B P2 (Or.symm d_P2B), pt_comm (pt (pt (pt (pt X w2 K2) b2 B2) w K) r2 P2) B (gP_X4_copyFrom L2 L P2 P) (Or.symm d_PB), pt_comm (pt (pt X w2 K2) b2 B2) K P2 (Or.symm d_P2K), pt_comm (pt X w2 K2) B2 P2 (Or.symm d_P2B2)]
  simp only [Option.bind_some, asV_n]
  try rewrite [fR_ok 1 hK2.k]
  try rewrite [Option.bind_some]
  try rewrite [hK2.r1]
  try rewrite [fR_ok 1 hK.k]
  try rewrite [Option.bind_some]
  try rewrite [hK.r1]
  try simp only [Option.bind_some]
  try rewrite [cpy_ok hB2.s0 hB.s0 (by decide) (by have := d_B2B; omega) 25 rfl]
  try simp only [Option.bind_some]
  try rewrite [c3_0]
  try rewrite [pt_out (x := b2) (a := b) (by have := d_B2B; omega)]
  try rewrite [pt_out (x := b2) (a := r) (by have := d_B2P; omega)]
  try rewrite [pt_out (x := b2) (a := w) (by have := d_B2K; omega)]
  try rewrite [p3_0]
  try rewrite [fR_ok 2 hK2.k]
  try rewrite [Option.bind_some]
  try rewrite [hK2.r2]
  try rewrite [fR_ok 2 hK.k]
  try rewrite [Option.bind_some]
  try rewrite [hK.r2]
  try simp only [Option.bind_some]
  try rewrite [cpy_ok hB2.s1 hB.s1 (by decide) (by have := d_B2B; omega) 25 rfl]
  try simp only [Option.bind_some]
  try rewrite [c3_1]
  try rewrite [pt_out (x := b2 + 1) (a := b) (by have := d_B2B; omega)]
  try rewrite [pt_out (x := b2 + 1) (a := r) (by have := d_B2P; omega)]
  try rewrite [pt_out (x := b2 + 1) (a := w) (by have := d_B2K; omega)]
  try rewrite [p3_1]
  try rewrite [fR_ok 3 hK2.k]
  try rewrite [Option.bind_some]
  try rewrite [hK2.r3]
  try rewrite [fR_ok 3 hK.k]
  try rewrite [Option.bind_some]
  try rewrite [hK.r3]
  try simp only [Option.bind_some]
  try rewrite [cpy_ok hB2.s2 hB.s2 (by decide) (by have := d_B2B; omega) 25 rfl]
  try simp only [Option.bind_some]
  try rewrite [c3_2]
  try rewrite [pt_out (x := b2 + 2) (a := b) (by have := d_B2B; omega)]
  try rewrite [pt_out (x := b2 + 2) (a := r) (by have := d_B2P; omega)]
  try rewrite [pt_out (x := b2 + 2) (a := w) (by have := d_B2K; omega)]
  try rewrite [p3_2]
  try rewrite [fI_ok 4 hK2.k]
  try rewrite [Option.bind_some]
  try rewrite [pt_out (x := w2) (a := b) (by have := d_K2B; omega)]
  try rewrite [pt_out (x := w2) (a := r) (by have := d_K2P; omega)]
  try rewrite [pt_out (x := w2) (a := w) (by have := d_K2K; omega)]
  try rewrite [pt_out (x := w2) (a := b2) (by have := d_K2B2; omega)]
  try rewrite [pt_out (x := w2) (a := r2) (by have := d_K2P2; omega)]
  try rewrite [p1_0]
  try rewrite [wI_ok 4 _ hK.k]
  try rewrite [Option.bind_some]
  try rewrite [up_out (x := w) (a := b) (by have := d_KB; omega)]
  try rewrite [up_out (x := w) (a := r) (by have := d_KP; omega)]
  try rewrite [u1_0]
  try rewrite [fZ_ok 5 hK2.k]
  try rewrite [Option.bind_some]
  try rewrite [pt_out (x := w2) (a := b) (by have := d_K2B; omega)]
  try rewrite [pt_out (x := w2) (a := r) (by have := d_K2P; omega)]
  try rewrite [pt_out (x := w2) (a := w) (by have := d_K2K; omega)]
  try rewrite [pt_out (x := w2) (a := b2) (by have := d_K2B2; omega)]
  try rewrite [pt_out (x := w2) (a := r2) (by have := d_K2P2; omega)]
  try rewrite [p1_0]
  try rewrite [wZ_ok 5 _ hK.k (bz_or _)]
  try rewrite [Option.bind_some]
  try rewrite [up_out (x := w) (a := b) (by have := d_KB; omega)]
  try rewrite [up_out (x := w) (a := r) (by have := d_KP; omega)]
  try rewrite [u1_0]
  try rewrite [fZ_ok 6 hK2.k]
  try rewrite [Option.bind_some]
  try rewrite [pt_out (x := w2) (a := b) (by have := d_K2B; omega)]
  try rewrite [pt_out (x := w2) (a := r) (by have := d_K2P; omega)]
  try rewrite [pt_out (x := w2) (a := w) (by have := d_K2K; omega)]
  try rewrite [pt_out (x := w2) (a := b2) (by have := d_K2B2; omega)]
  try rewrite [pt_out (x := w2) (a := r2) (by have := d_K2P2; omega)]
  try rewrite [p1_0]
  try rewrite [wZ_ok 6 _ hK.k (bz_or _)]
  try rewrite [Option.bind_some]
  try rewrite [up_out (x := w) (a := b) (by have := d_KB; omega)]
  try rewrite [up_out (x := w) (a := r) (by have := d_KP; omega)]
  try rewrite [u1_0]
  try rewrite [fI_ok 7 hK2.k]
  try rewrite [Option.bind_some]
  try rewrite [pt_out (x := w2) (a := b) (by have := d_K2B; omega)]
  try rewrite [pt_out (x := w2) (a := r) (by have := d_K2P; omega)]
  try rewrite [pt_out (x := w2) (a := w) (by have := d_K2K; omega)]
  try rewrite [pt_out (x := w2) (a := b2) (by have := d_K2B2; omega)]
  try rewrite [pt_out (x := w2) (a := r2) (by have := d_K2P2; omega)]
  try rewrite [p1_0]
  try rewrite [wI_ok 7 _ hK.k]
  try rewrite [Option.bind_some]
  try rewrite [up_out (x := w) (a := b) (by have := d_KB; omega)]
  try rewrite [up_out (x := w) (a := r) (by have := d_KP; omega)]
  try rewrite [u1_0]
  try rewrite [fI_ok 8 hK2.k]
  try rewrite [Option.bind_some]
  try rewrite [pt_out (x := w2) (a := b) (by have := d_K2B; omega)]
  try rewrite [pt_out (x := w2) (a := r) (by have := d_K2P; omega)]
  try rewrite [pt_out (x := w2) (a := w) (by have := d_K2K; omega)]
  try rewrite [pt_out (x := w2) (a := b2) (by have := d_K2B2; omega)]
  try rewrite [pt_out (x := w2) (a := r2) (by have := d_K2P2; omega)]
  try rewrite [p1_0]
  try rewrite [wI_ok 8 _ hK.k]
  try rewrite [Option.bind_some]
  try rewrite [up_out (x := w) (a := b) (by have := d_KB; omega)]
  try rewrite [up_out (x := w) (a := r) (by have := d_KP; omega)]
  try rewrite [u1_0]
  exact hR
end
section
/-! By hand: routes turned around, the end of a step, a volume added. -/
theorem i32_succ {x y : Int32} (h : x < y) : (x + 1).toInt = x.toInt + 1 := by
  have h1 := Int32.lt_iff_toInt_lt.mp h
  have h2 := Int32.toInt_lt y
  have h3 := Int32.le_toInt x
  rw [Int32.toInt_add]
  have e1 : (1 : Int32).toInt = 1 := rfl
  rw [e1]
  apply Int.bmod_eq_of_le <;> omega
theorem i32_pred {x y : Int32} (h : y < x) : (x + (-1)).toInt = x.toInt - 1 := by
  have h1 := Int32.lt_iff_toInt_lt.mp h
  have h2 := Int32.toInt_lt x
  have h3 := Int32.le_toInt y
  rw [Int32.toInt_add]
  have e1 : (-1 : Int32).toInt = -1 := rfl
  rw [e1]
  apply Int.bmod_eq_of_le <;> omega
theorem i32_le {x y : Int32} : x ≤ y ↔ x.toInt ≤ y.toInt := Int32.le_iff_toInt_le
theorem i32_lt {x y : Int32} : x < y ↔ x.toInt < y.toInt := Int32.lt_iff_toInt_lt
def lp_X4_turnAround (L : Nat) : Nat → Int32 → Int32 → RouV → RouV
  | 0, _, _, P => P
  | f + 1, x1, x2, P => if x2 ≤ x1 then P else if (nI L) ≤ x2 then P else lp_X4_turnAround L f (x1 + 1) (x2 + (-1)) (uv (uv P 1 (ix x1) (P 1 (ix x2))) 1 (ix x2) (P 1 (ix x1)))
def gP_X4_turnAround (L : Nat) (P : RouV) : RouV := lp_X4_turnAround L (((P 0 1) - 1).toInt).toNat 0 ((P 0 1) - 1) P
theorem turn_9 {J : MJ} {r L : Nat} (hP : RouL J r L) (X : MI) (P : RouV) (x1 x2 : Int32) (h1 : ¬ x1 < 0) : Ev T_X4_turnAround 9 [some (mR (some r)), some (mI x1), some (mI x2), none] [] (pt X r P, J) = (if x2 ≤ x1 then some (none, (pt X r P, J)) else (if (nI L) ≤ x2 then some (none, (pt X r P, J)) else Ev T_X4_turnAround 9 [some (mR (some r)), some (mI (x1 + 1)), some (mI (x2 + (-1))), none] [] (pt X r (uv (uv P 1 (ix x1) (P 1 (ix x2))) 1 (ix x2) (P 1 (ix x1))), J))) := by
  by_cases a : x2 ≤ x1
  · rw [if_pos a, E_X4_turnAround_9, if_neg h1, if_pos a]
  · rw [if_neg a]
    by_cases b : (nI L) ≤ x2
    · rw [if_pos b, E_X4_turnAround_9, if_neg h1, if_neg a, fR_ok 0 hP.k, Option.bind_some, hP.r1, Option.bind_some, aln_ok hP.s1 (by decide), Option.bind_some, if_pos b]
    · rw [if_neg b]
      have hL : (nI L).toInt = L := nI_toInt (by have := hP.b; omega)
      have a' := i32_lt.mp (Int32.not_le.mp a)
      have b' := i32_lt.mp (Int32.not_le.mp b)
      have h1' := i32_le.mp (Int32.not_lt.mp h1)
      have e0 : (0 : Int32).toInt = 0 := rfl
      rw [e0] at h1'
      have h2 : ¬ x2 < 0 := by
        rw [i32_lt, e0]; omega
      have h3 : inb x1 L := inb_of hL h1 (by rw [i32_le, hL]; omega)
      rw [P_X4_turnAround_9 hP X P x1 x2 h1 h2 h3, if_neg a, if_neg b]
theorem lr_X4_turnAround {J : MJ} {r L : Nat} (hP : RouL J r L) (X : MI) : ∀ (f : Nat) (x1 x2 : Int32) (P : RouV), ¬ x1 < 0 → x2.toInt ≤ x1.toInt + f → Ev T_X4_turnAround 9 [some (mR (some r)), some (mI x1), some (mI x2), none] [] (pt X r P, J) = some (none, (pt X r (lp_X4_turnAround L f x1 x2 P), J)) := by
  intro f
  induction f with
  | zero =>
    intro x1 x2 P h1 h2
    rw [turn_9 hP X P x1 x2 h1, if_pos (by rw [i32_le]; omega)]
    rfl
  | succ f ih =>
    intro x1 x2 P h1 h2
    rw [turn_9 hP X P x1 x2 h1]
    unfold lp_X4_turnAround
    by_cases a : x2 ≤ x1
    · rw [if_pos a, if_pos a]
    · rw [if_neg a, if_neg a]
      by_cases b : (nI L) ≤ x2
      · rw [if_pos b, if_pos b]
      · rw [if_neg b, if_neg b]
        have a1 := Int32.not_le.mp a
        have s1 := i32_succ a1
        have s2 := i32_pred a1
        apply ih
        · intro h
          have h' := i32_lt.mp h
          have e0 : (0 : Int32).toInt = 0 := rfl
          have h1' := i32_le.mp (Int32.not_lt.mp h1)
          rw [e0] at h1' h'
          omega
        · omega
theorem s_X4_turnAround {J : MJ} {r L : Nat} (hP : RouL J r L) (X : MI) (P : RouV) : M_X4_turnAround [mR (some r)] (pt X r P, J) = some (none, (pt X r (gP_X4_turnAround L P), J)) := by
  rw [P_X4_turnAround hP]
  exact lr_X4_turnAround hP X _ 0 _ P (by decide) (by have e0 : (0 : Int32).toInt = 0 := rfl; rw [e0]; omega)
def lp_X4_endOfStep (Q : RouV) (x2 : Int32) : Nat → Int32 → Int32
  | 0, x => x
  | f + 1, x => if x2 ≤ x then x else if (q_X5_at Q x) = 47 then x else lp_X4_endOfStep Q x2 f (x + 1)
def q_X4_endOfStep (Q : RouV) (x1 x2 : Int32) : Int32 := lp_X4_endOfStep Q x2 (x2.toInt - x1.toInt).toNat x1
theorem lr_X4_endOfStep {J : MJ} {t : Nat} (hT : TapL J t) (X : MI) (Q : RouV) (x2 : Int32) : ∀ (f : Nat) (x : Int32), (x2.toInt - x.toInt).toNat ≤ f → Ev T_X4_endOfStep 2 [some (mR (some t)), none, some (mI x2), some (mI x)] [] (pt X t Q, J) = some (some (mI (lp_X4_endOfStep Q x2 f x)), (pt X t Q, J)) := by
  intro f
  induction f with
  | zero =>
    intro x h
    rw [P_X4_endOfStep_2 hT, if_pos (by rw [i32_le]; omega)]
    rfl
  | succ f ih =>
    intro x h
    rw [P_X4_endOfStep_2 hT]
    unfold lp_X4_endOfStep
    by_cases a : x2 ≤ x
    · rw [if_pos a, if_pos a]
    · rw [if_neg a, if_neg a]
      by_cases b : (q_X5_at Q x) = 47
      · rw [if_pos b, if_pos b]
      · rw [if_neg b, if_neg b]
        apply ih
        have := i32_succ (Int32.not_le.mp a)
        omega
theorem s_X4_endOfStep {J : MJ} {t : Nat} (hT : TapL J t) (X : MI) (Q : RouV) (x1 x2 : Int32) : M_X4_endOfStep [mR (some t), mI x1, mI x2] (pt X t Q, J) = some (some (mI (q_X4_endOfStep Q x1 x2)), (pt X t Q, J)) := by
  rw [P_X4_endOfStep hT]
  exact lr_X4_endOfStep hT X Q x2 _ x1 (Nat.le_refl _)
def q_X2_addVolume (U : NodV) : Int32 := if (U 0 6) < 0 then 0 else if (3 : Int32) ≤ (U 0 6) then 0 else if (U 0 5) < 60 then 1 else 0
def gU_X2_addVolume (U : NodV) : NodV := if (U 0 6) < 0 then U else if (3 : Int32) ≤ (U 0 6) then U else if (U 0 5) < 60 then uv (gU_X2_put (uv U 0 6 ((U 0 6) + 1)) (U 0 6) (-1) 0 2) 5 (ix (U 0 6)) (q_X2_put (uv U 0 6 ((U 0 6) + 1)) (U 0 6) (-1) 0 2) else U
theorem s_X2_addVolume {J : MJ} {n : Nat} (hN : NodL J n) (X : MI) (U : NodV) : M_X2_addVolume [mR (some n)] (pt X n U, J) = some (some (mI (q_X2_addVolume U)), (pt X n (gU_X2_addVolume U), J)) := by
  rw [E_X2_addVolume, fI_ok 6 hN.k, Option.bind_some, p6_0]
  unfold q_X2_addVolume gU_X2_addVolume
  by_cases a : (U 0 6) < 0
  · simp only [if_pos a]; rfl
  · simp only [if_neg a]
    rw [Option.bind_some]
    by_cases b : (3 : Int32) ≤ (U 0 6)
    · simp only [if_pos b]; rfl
    · simp only [if_neg b]
      rw [fI_ok 5 hN.k, Option.bind_some, p6_0]
      by_cases c : (U 0 5) < 60
      · simp only [if_pos c]
        have e1 : (U 0 6) + 1 - 1 = U 0 6 := Int32.add_sub_cancel _ _
        rw [Option.bind_some, wI_ok 6 _ hN.k, Option.bind_some, u6_0, fR_ok 4 hN.k, Option.bind_some, fI_ok 6 hN.k, Option.bind_some, p6_0, uv_s, hN.r5]
        rw [Option.bind_some, e1]
        rw [if_pos (show kd (pt X n (uv U 0 6 ((U 0 6) + 1)), J) n = 2 from hN.k), s_X2_put hN]
        simp only [Option.bind_some, asI_I]
        rw [st_ok _ _ hN.s5 (inb3 a b), Option.bind_some, u6_5]
        simp
      · simp only [if_neg c]; rfl
end
section
/-! Walks of loops that part 50 closes. Written by gen/run5.py. -/
theorem P_X3_skipBlanks {J : MJ} {e n t : Nat} (hE : RdrL J e n) (hT : TapL J t) (d_EQ : e + 1 ≤ t ∨ t + 2 ≤ e) (X : MI) (E : OneV) (Q : RouV) : M_X3_skipBlanks [mR (some e), mR (some t)] (pt (pt X e E) t Q, J) = (if (Q 0 1) ≤ (E 0 3) then some (none, (pt (pt X e E) t Q, J)) else (if (q_X5_at Q (E 0 3)) = 32 then Ev T_X3_skipBlanks 0 [some (mR (some e)), some (mR (some t))] [] (pt (pt X e (uv E 0 3 ((E 0 3) + 1))) t Q, J) else (if (q_X5_at Q (E 0 3)) = 10 then Ev T_X3_skipBlanks 0 [some (mR (some e)), some (mR (some t))] [] (pt (pt X e (uv E 0 3 ((E 0 3) + 1))) t Q, J) else some (none, (pt (pt X e E) t Q, J))))) := by
  generalize hR : (if (Q 0 1) ≤ (E 0 3) then some (none, (pt (pt X e E) t Q, J)) else (if (q_X5_at Q (E 0 3)) = 32 then Ev T_X3_skipBlanks 0 [some (mR (some e)), some (mR (some t))] [] (pt (pt X e (uv E 0 3 ((E 0 3) + 1))) t Q, J) else (if (q_X5_at Q (E 0 3)) = 10 then Ev T_X3_skipBlanks 0 [some (mR (some e)), some (mR (some t))] [] (pt (pt X e (uv E 0 3 ((E 0 3) + 1))) t Q, J) else some (none, (pt (pt X e E) t Q, J))))) = R
  rw [E_X3_skipBlanks, E_X3_skipBlanks_0]
  try rewrite [fI_ok 3 hE.k]
  try rewrite [Option.bind_some]
  try rewrite [pt_out (x := e) (a := t) (by have := d_EQ; omega)]
  try rewrite [p1_0]
  try rewrite [fI_ok 1 hT.k]
  try rewrite [Option.bind_some]
  try rewrite [p2_0]
  by_cases h1 : (Q 0 1) ≤ (E 0 3)
  · rewrite [if_pos h1]; simp only [if_pos h1] at hR
    exact hR
  · rewrite [if_neg h1]; simp only [if_neg h1] at hR
    try rewrite [fI_ok 3 hE.k]
    try rewrite [Option.bind_some]
    try rewrite [pt_out (x := e) (a := t) (by have := d_EQ; omega)]
    try rewrite [p1_0]
    try simp only [Option.bind_some]
    rewrite [if_pos (show kd (pt (pt X e E) t Q, J) t = 5 from hT.k)]
    rewrite [s_X5_at hT]
    simp only [Option.bind_some, asI_I]
    by_cases h2 : (q_X5_at Q (E 0 3)) = 32
    · rewrite [if_pos h2]; simp only [if_pos h2] at hR
      try rewrite [fI_ok 3 hE.k]
      try rewrite [Option.bind_some]
      try rewrite [pt_out (x := e) (a := t) (by have := d_EQ; omega)]
      try rewrite [p1_0]
      try rewrite [wI_ok 3 _ hE.k]
      try rewrite [Option.bind_some]
      try rewrite [up_out (x := e) (a := t) (by have := d_EQ; omega)]
      try rewrite [u1_0]
      exact hR
    · rewrite [if_neg h2]; simp only [if_neg h2] at hR
      try rewrite [fI_ok 3 hE.k]
      try rewrite [Option.bind_some]
      try rewrite [pt_out (x := e) (a := t) (by have := d_EQ; omega)]
      try rewrite [p1_0]
      try simp only [Option.bind_some]
      rewrite [if_pos (show kd (pt (pt X e E) t Q, J) t = 5 from hT.k)]
      rewrite [s_X5_at hT]
      simp only [Option.bind_some, asI_I]
      by_cases h3 : (q_X5_at Q (E 0 3)) = 10
      · rewrite [if_pos h3]; simp only [if_pos h3] at hR
        try rewrite [fI_ok 3 hE.k]
        try rewrite [Option.bind_some]
        try rewrite [pt_out (x := e) (a := t) (by have := d_EQ; omega)]
        try rewrite [p1_0]
        try rewrite [wI_ok 3 _ hE.k]
        try rewrite [Option.bind_some]
        try rewrite [up_out (x := e) (a := t) (by have := d_EQ; omega)]
        try rewrite [u1_0]
        exact hR
      · rewrite [if_neg h3]; simp only [if_neg h3] at hR
        exact hR
theorem P_X4_readFrom {J : MJ} {t r L : Nat} (hT : TapL J t) (hP : RouL J r L) (d_QP : t + 2 ≤ r ∨ r + 2 ≤ t) (X : MI) (Q : RouV) (P : RouV) (x2 : Int32) (x3 : Int32) : M_X4_readFrom [mR (some r), mR (some t), mI x2, mI x3] (pt (pt X t Q) r P, J) = (if (x3 - x2) = 1 then (if (q_X5_at Q x2) = 47 then some (some (mI 1), (pt (pt X t Q) r (uv P 0 1 0), J)) else some (some (mI 0), (pt (pt X t Q) r (uv P 0 1 0), J))) else Ev T_X4_readFrom 34 [some (mR (some r)), some (mR (some t)), none, some (mI x3), some (mI x2), some (mI 0), none, none] [] (pt (pt X t Q) r (uv P 0 1 0), J)) := by
  generalize hR : (if (x3 - x2) = 1 then (if (q_X5_at Q x2) = 47 then some (some (mI 1), (pt (pt X t Q) r (uv P 0 1 0), J)) else some (some (mI 0), (pt (pt X t Q) r (uv P 0 1 0), J))) else Ev T_X4_readFrom 34 [some (mR (some r)), some (mR (some t)), none, some (mI x3), some (mI x2), some (mI 0), none, none] [] (pt (pt X t Q) r (uv P 0 1 0), J)) = R
  rw [E_X4_readFrom]
  try rewrite [wI_ok 1 _ hP.k]
  try rewrite [Option.bind_some]
  try rewrite [u2_0]
  by_cases h1 : (x3 - x2) = 1
  · rewrite [if_pos h1]; simp only [if_pos h1] at hR
    try simp only [Option.bind_some]
    rewrite [if_pos (show kd (pt (pt X t Q) r (uv P 0 1 0), J) t = 5 from hT.k)]
    rw [pt_comm X Q (uv P 0 1 0) d_QP]
    rw [s_X5_at hT]
    rw [pt_comm X (uv P 0 1 0) Q (Or.symm d_QP)]
    simp only [Option.bind_some, asI_I]
    by_cases h2 : (q_X5_at Q x2) = 47
    · rewrite [if_pos h2]; simp only [if_pos h2] at hR
      first | exact hR | (simp only [if_pos (show (0 : Int32) = 0 ∨ (0 : Int32) = 1 by decide), if_pos (show (1 : Int32) = 0 ∨ (1 : Int32) = 1 by decide)]; exact hR) | (simp; exact hR)
    · rewrite [if_neg h2]; simp only [if_neg h2] at hR
      first | exact hR | (simp only [if_pos (show (0 : Int32) = 0 ∨ (0 : Int32) = 1 by decide), if_pos (show (1 : Int32) = 0 ∨ (1 : Int32) = 1 by decide)]; exact hR) | (simp; exact hR)
  · rewrite [if_neg h1]; simp only [if_neg h1] at hR
    exact hR
theorem P_X4_readFrom_34 {J : MJ} {t r L : Nat} (hT : TapL J t) (hP : RouL J r L) (d_QP : t + 2 ≤ r ∨ r + 2 ≤ t) (X : MI) (Q : RouV) (P : RouV) (x3 : Int32) (x4 : Int32) (x5 : Int32) : Ev T_X4_readFrom 34 [some (mR (some r)), some (mR (some t)), none, some (mI x3), some (mI x4), some (mI x5), none, none] [] (pt (pt X t Q) r P, J) = (if (nI L) < x5 then (if (P 0 1) ≤ 0 then some (some (mI 0), (pt (pt X t Q) r P, J)) else some (some (mI 1), (pt (pt X t Q) r P, J))) else (if x3 ≤ x4 then (if (P 0 1) ≤ 0 then some (some (mI 0), (pt (pt X t Q) r P, J)) else some (some (mI 1), (pt (pt X t Q) r P, J))) else (if (q_X5_at Q x4) = 47 then (if (q_X9_stepBetween Q (x4 + 1) (q_X4_endOfStep Q (x4 + 1) x3)) = 0 then some (some (mI 0), (pt (pt X t Q) r P, J)) else (if (q_X4_push L P (q_X9_stepBetween Q (x4 + 1) (q_X4_endOfStep Q (x4 + 1) x3))) = 0 then some (some (mI 0), (pt (pt X t Q) r (gP_X4_push L P (q_X9_stepBetween Q (x4 + 1) (q_X4_endOfStep Q (x4 + 1) x3))), J)) else Ev T_X4_readFrom 34 [some (mR (some r)), some (mR (some t)), none, some (mI x3), some (mI (q_X4_endOfStep Q (x4 + 1) x3)), some (mI (x5 + 1)), none, none] [] (pt (pt X t Q) r (gP_X4_push L P (q_X9_stepBetween Q (x4 + 1) (q_X4_endOfStep Q (x4 + 1) x3))), J))) else some (some (mI 0), (pt (pt X t Q) r P, J))))) := by
  generalize hR : (if (nI L) < x5 then (if (P 0 1) ≤ 0 then some (some (mI 0), (pt (pt X t Q) r P, J)) else some (some (mI 1), (pt (pt X t Q) r P, J))) else (if x3 ≤ x4 then (if (P 0 1) ≤ 0 then some (some (mI 0), (pt (pt X t Q) r P, J)) else some (some (mI 1), (pt (pt X t Q) r P, J))) else (if (q_X5_at Q x4) = 47 then (if (q_X9_stepBetween Q (x4 + 1) (q_X4_endOfStep Q (x4 + 1) x3)) = 0 then some (some (mI 0), (pt (pt X t Q) r P, J)) else (if (q_X4_push L P (q_X9_stepBetween Q (x4 + 1) (q_X4_endOfStep Q (x4 + 1) x3))) = 0 then some (some (mI 0), (pt (pt X t Q) r (gP_X4_push L P (q_X9_stepBetween Q (x4 + 1) (q_X4_endOfStep Q (x4 + 1) x3))), J)) else Ev T_X4_readFrom 34 [some (mR (some r)), some (mR (some t)), none, some (mI x3), some (mI (q_X4_endOfStep Q (x4 + 1) x3)), some (mI (x5 + 1)), none, none] [] (pt (pt X t Q) r (gP_X4_push L P (q_X9_stepBetween Q (x4 + 1) (q_X4_endOfStep Q (x4 + 1) x3))), J))) else some (some (mI 0), (pt (pt X t Q) r P, J))))) = R
  rw [E_X4_readFrom_34]
  try rewrite [fR_ok 0 hP.k]
  try rewrite [Option.bind_some]
  try rewrite [hP.r1]
  try simp only [Option.bind_some]
  try rewrite [aln_ok hP.s1 (by decide)]
  try rewrite [Option.bind_some]
  by_cases h1 : (nI L) < x5
  · rewrite [if_pos h1]; simp only [if_pos h1] at hR
    try rewrite [fI_ok 1 hP.k]
    try rewrite [Option.bind_some]
    try rewrite [p2_0]
    by_cases h2 : (P 0 1) ≤ 0
    · rewrite [if_pos h2]; simp only [if_pos h2] at hR
      first | exact hR | (simp only [if_pos (show (0 : Int32) = 0 ∨ (0 : Int32) = 1 by decide), if_pos (show (1 : Int32) = 0 ∨ (1 : Int32) = 1 by decide)]; exact hR) | (simp; exact hR)
    · rewrite [if_neg h2]; simp only [if_neg h2] at hR
      first | exact hR | (simp only [if_pos (show (0 : Int32) = 0 ∨ (0 : Int32) = 1 by decide), if_pos (show (1 : Int32) = 0 ∨ (1 : Int32) = 1 by decide)]; exact hR) | (simp; exact hR)
  · rewrite [if_neg h1]; simp only [if_neg h1] at hR
    by_cases h3 : x3 ≤ x4
    · rewrite [if_pos h3]; simp only [if_pos h3] at hR
      try rewrite [fI_ok 1 hP.k]
      try rewrite [Option.bind_some]
      try rewrite [p2_0]
      by_cases h4 : (P 0 1) ≤ 0
      · rewrite [if_pos h4]; simp only [if_pos h4] at hR
        first | exact hR | (simp only [if_pos (show (0 : Int32) = 0 ∨ (0 : Int32) = 1 by decide), if_pos (show (1 : Int32) = 0 ∨ (1 : Int32) = 1 by decide)]; exact hR) | (simp; exact hR)
      · rewrite [if_neg h4]; simp only [if_neg h4] at hR
        first | exact hR | (simp only [if_pos (show (0 : Int32) = 0 ∨ (0 : Int32) = 1 by decide), if_pos (show (1 : Int32) = 0 ∨ (1 : Int32) = 1 by decide)]; exact hR) | (simp; exact hR)
    · rewrite [if_neg h3]; simp only [if_neg h3] at hR
      try simp only [Option.bind_some]
      rw [pt_comm X Q P d_QP]
      rw [s_X4_endOfStep hT]
      rw [pt_comm X P Q (Or.symm d_QP)]
      simp only [Option.bind_some, asI_I]
      try simp only [Option.bind_some]
      rw [pt_comm X Q P d_QP]
      rw [s_X9_stepBetween hT]
      rw [pt_comm X P Q (Or.symm d_QP)]
      simp only [Option.bind_some, asI_I]
      try simp only [Option.bind_some]
      rewrite [if_pos (show kd (pt (pt X t Q) r P, J) t = 5 from hT.k)]
      rw [pt_comm X Q P d_QP]
      rw [s_X5_at hT]
      rw [pt_comm X P Q (Or.symm d_QP)]
      simp only [Option.bind_some, asI_I]
      by_cases h5 : (q_X5_at Q x4) = 47
      · rewrite [if_pos h5]; simp only [if_pos h5] at hR
        by_cases h6 : (q_X9_stepBetween Q (x4 + 1) (q_X4_endOfStep Q (x4 + 1) x3)) = 0
        · rewrite [if_pos h6]; simp only [if_pos h6] at hR
          first | exact hR | (simp only [if_pos (show (0 : Int32) = 0 ∨ (0 : Int32) = 1 by decide), if_pos (show (1 : Int32) = 0 ∨ (1 : Int32) = 1 by decide)]; exact hR) | (simp; exact hR)
        · rewrite [if_neg h6]; simp only [if_neg h6] at hR
          try simp only [Option.bind_some]
          rewrite [if_pos (show kd (pt (pt X t Q) r P, J) r = 4 from hP.k)]
          rewrite [s_X4_push hP]
          simp only [Option.bind_some, asI_I]
          by_cases h7 : (q_X4_push L P (q_X9_stepBetween Q (x4 + 1) (q_X4_endOfStep Q (x4 + 1) x3))) = 0
          · rewrite [if_pos h7]; simp only [if_pos h7] at hR
            first | exact hR | (simp only [if_pos (show (0 : Int32) = 0 ∨ (0 : Int32) = 1 by decide), if_pos (show (1 : Int32) = 0 ∨ (1 : Int32) = 1 by decide)]; exact hR) | (simp; exact hR)
          · rewrite [if_neg h7]; simp only [if_neg h7] at hR
            exact hR
      · rewrite [if_neg h5]; simp only [if_neg h5] at hR
        first | exact hR | (simp only [if_pos (show (0 : Int32) = 0 ∨ (0 : Int32) = 1 by decide), if_pos (show (1 : Int32) = 0 ∨ (1 : Int32) = 1 by decide)]; exact hR) | (simp; exact hR)
end

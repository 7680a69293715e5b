/-! Layouts of walkers, worlds, the reader; windows of 1 and 3 cells. Written by gen/lay2.py. -/
abbrev OneV : Type := Fin 1 → Nat → Int32
abbrev TriV : Type := Fin 3 → Nat → Int32
theorem p1_0 {I : MI} {a : Nat} {V : Fin 1 → Nat → Int32} : pt I a V a = V 0 := pt_in (N := 1) 0
theorem u1_0 {I : MI} {a : Nat} {V : Fin 1 → Nat → Int32} {j : Nat} {v : Int32} : up2 (pt I a V) a j v = pt I a (uv V 0 j v) := up_pt (N := 1) I a V 0 j v
theorem c1_0 {I : MI} {a : Nat} {V : Fin 1 → Nat → Int32} {n : Nat} {f : Nat → Int32} : (fun x y => if x = a ∧ y < n then f y else pt I a V x y) = pt I a (cpv V 0 n f) := cp_pt (N := 1) I a V 0 n f
theorem p3_1 {I : MI} {a : Nat} {V : Fin 3 → Nat → Int32} : pt I a V (a + 1) = V 1 := pt_in (N := 3) 1
theorem c3_1 {I : MI} {a : Nat} {V : Fin 3 → Nat → Int32} {n : Nat} {f : Nat → Int32} : (fun x y => if x = a + 1 ∧ y < n then f y else pt I a V x y) = pt I a (cpv V 1 n f) := cp_pt (N := 3) I a V 1 n f
theorem u3_1 {I : MI} {a : Nat} {V : Fin 3 → Nat → Int32} {j : Nat} {v : Int32} : up2 (pt I a V) (a + 1) j v = pt I a (uv V 1 j v) := up_pt (N := 3) I a V 1 j v
theorem p3_2 {I : MI} {a : Nat} {V : Fin 3 → Nat → Int32} : pt I a V (a + 2) = V 2 := pt_in (N := 3) 2
theorem c3_2 {I : MI} {a : Nat} {V : Fin 3 → Nat → Int32} {n : Nat} {f : Nat → Int32} : (fun x y => if x = a + 2 ∧ y < n then f y else pt I a V x y) = pt I a (cpv V 2 n f) := cp_pt (N := 3) I a V 2 n f
theorem u3_2 {I : MI} {a : Nat} {V : Fin 3 → Nat → Int32} {j : Nat} {v : Int32} : up2 (pt I a V) (a + 2) j v = pt I a (uv V 2 j v) := up_pt (N := 3) I a V 2 j v
theorem p3_0 {I : MI} {a : Nat} {V : Fin 3 → Nat → Int32} : pt I a V a = V 0 := pt_in (N := 3) 0
theorem u3_0 {I : MI} {a : Nat} {V : Fin 3 → Nat → Int32} {j : Nat} {v : Int32} : up2 (pt I a V) a j v = pt I a (uv V 0 j v) := up_pt (N := 3) I a V 0 j v
theorem c3_0 {I : MI} {a : Nat} {V : Fin 3 → Nat → Int32} {n : Nat} {f : Nat → Int32} : (fun x y => if x = a ∧ y < n then f y else pt I a V x y) = pt I a (cpv V 0 n f) := cp_pt (N := 3) I a V 0 n f
def WalL (J : MJ) (w r b : Nat) : Prop := (jS J w).1 = 7 ∧ jR J w 0 = some r ∧ jR J w 1 = some b ∧ jR J w 2 = some (b + 1) ∧ jR J w 3 = some (b + 2)
theorem WalL.k {J : MJ} {w r b : Nat} (h : WalL J w r b) : (jS J w).1 = 7 := h.1
theorem WalL.r0 {J : MJ} {w r b : Nat} (h : WalL J w r b) : jR J w 0 = some r := h.2.1
theorem WalL.r1 {J : MJ} {w r b : Nat} (h : WalL J w r b) : jR J w 1 = some b := h.2.2.1
theorem WalL.r2 {J : MJ} {w r b : Nat} (h : WalL J w r b) : jR J w 2 = some (b + 1) := h.2.2.2.1
theorem WalL.r3 {J : MJ} {w r b : Nat} (h : WalL J w r b) : jR J w 3 = some (b + 2) := h.2.2.2.2
def BufL (J : MJ) (b : Nat) : Prop := jS J b = (11, 25) ∧ jS J (b + 1) = (11, 25) ∧ jS J (b + 2) = (11, 25)
theorem BufL.s0 {J : MJ} {b : Nat} (h : BufL J b) : jS J b = (11, 25) := h.1
theorem BufL.s1 {J : MJ} {b : Nat} (h : BufL J b) : jS J (b + 1) = (11, 25) := h.2.1
theorem BufL.s2 {J : MJ} {b : Nat} (h : BufL J b) : jS J (b + 2) = (11, 25) := h.2.2
def WorL (J : MJ) (o n m g z : Nat) : Prop := (jS J o).1 = 8 ∧ jR J o 0 = some n ∧ jR J o 1 = some m ∧ jR J o 2 = some g ∧ jR J o 3 = some z
theorem WorL.k {J : MJ} {o n m g z : Nat} (h : WorL J o n m g z) : (jS J o).1 = 8 := h.1
theorem WorL.r0 {J : MJ} {o n m g z : Nat} (h : WorL J o n m g z) : jR J o 0 = some n := h.2.1
theorem WorL.r1 {J : MJ} {o n m g z : Nat} (h : WorL J o n m g z) : jR J o 1 = some m := h.2.2.1
theorem WorL.r2 {J : MJ} {o n m g z : Nat} (h : WorL J o n m g z) : jR J o 2 = some g := h.2.2.2.1
theorem WorL.r3 {J : MJ} {o n m g z : Nat} (h : WorL J o n m g z) : jR J o 3 = some z := h.2.2.2.2
def HanL (J : MJ) (g : Nat) : Prop := jS J g = (11, 6) ∧ 0 = 0
theorem HanL.s0 {J : MJ} {g : Nat} (h : HanL J g) : jS J g = (11, 6) := h.1
theorem HanL.x {J : MJ} {g : Nat} (h : HanL J g) : 0 = 0 := h.2
def RdrL (J : MJ) (e n : Nat) : Prop := (jS J e).1 = 3 ∧ jR J e 0 = some n
theorem RdrL.k {J : MJ} {e n : Nat} (h : RdrL J e n) : (jS J e).1 = 3 := h.1
theorem RdrL.r0 {J : MJ} {e n : Nat} (h : RdrL J e n) : jR J e 0 = some n := h.2
theorem inb_pred {x : Int32} {n : Nat} {m : Int32} (hm : m.toInt = n) (h1 : 0 < x) (h2 : x ≤ m) : inb (x - 1) n := by
  have a1 := Int32.lt_iff_toInt_lt.mp h1
  have a2 := Int32.le_iff_toInt_le.mp h2
  have a0 : (0 : Int32).toInt = 0 := rfl
  rw [hm] at a2
  rw [a0] at a1
  have a3 : (x - 1).toInt = x.toInt - 1 := by
    rw [Int32.toInt_sub]
    have e1 : (1 : Int32).toInt = 1 := rfl
    rw [e1]
    have := Int32.toInt_lt x
    apply Int.bmod_eq_of_le <;> omega
  intro h
  rcases h with h | h
  · have := Int32.lt_iff_toInt_lt.mp h
    rw [a3, a0] at this
    omega
  · have e4 : (x - 1).toNatClampNeg = (x - 1).toInt.toNat := rfl
    rw [e4, a3] at h
    omega

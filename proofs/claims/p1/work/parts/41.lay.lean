/-! Layouts: where an object's rows lie. -/
def NodL (J : MJ) (n : Nat) : Prop := (jS J n).1 = 2 ∧ jR J n 0 = some (n + 1) ∧ jR J n 1 = some (n + 2) ∧ jR J n 2 = some (n + 3) ∧ jR J n 3 = some (n + 4) ∧ jR J n 4 = some (n + 5) ∧ jS J (n + 1) = (11, 60) ∧ jS J (n + 2) = (11, 60) ∧ jS J (n + 3) = (11, 60) ∧ jS J (n + 4) = (11, 60) ∧ jS J (n + 5) = (11, 3)
theorem NodL.k {J : MJ} {n : Nat} (h : NodL J n) : (jS J n).1 = 2 := h.1
theorem NodL.r1 {J : MJ} {n : Nat} (h : NodL J n) : jR J n 0 = some (n + 1) := h.2.1
theorem NodL.r2 {J : MJ} {n : Nat} (h : NodL J n) : jR J n 1 = some (n + 2) := h.2.2.1
theorem NodL.r3 {J : MJ} {n : Nat} (h : NodL J n) : jR J n 2 = some (n + 3) := h.2.2.2.1
theorem NodL.r4 {J : MJ} {n : Nat} (h : NodL J n) : jR J n 3 = some (n + 4) := h.2.2.2.2.1
theorem NodL.r5 {J : MJ} {n : Nat} (h : NodL J n) : jR J n 4 = some (n + 5) := h.2.2.2.2.2.1
theorem NodL.s1 {J : MJ} {n : Nat} (h : NodL J n) : jS J (n + 1) = (11, 60) := h.2.2.2.2.2.2.1
theorem NodL.s2 {J : MJ} {n : Nat} (h : NodL J n) : jS J (n + 2) = (11, 60) := h.2.2.2.2.2.2.2.1
theorem NodL.s3 {J : MJ} {n : Nat} (h : NodL J n) : jS J (n + 3) = (11, 60) := h.2.2.2.2.2.2.2.2.1
theorem NodL.s4 {J : MJ} {n : Nat} (h : NodL J n) : jS J (n + 4) = (11, 60) := h.2.2.2.2.2.2.2.2.2.1
theorem NodL.s5 {J : MJ} {n : Nat} (h : NodL J n) : jS J (n + 5) = (11, 3) := h.2.2.2.2.2.2.2.2.2.2
def MemL (J : MJ) (m n : Nat) : Prop := (jS J m).1 = 1 ∧ jR J m 0 = some n ∧ jR J m 1 = some (m + 1) ∧ jR J m 2 = some (m + 2) ∧ jR J m 3 = some (m + 3) ∧ jR J m 4 = some (m + 4) ∧ jR J m 5 = some (m + 5) ∧ jR J m 6 = some (m + 6) ∧ jR J m 7 = some (m + 7) ∧ jR J m 8 = some (m + 8) ∧ jR J m 9 = some (m + 9) ∧ jR J m 10 = some (m + 10) ∧ jR J m 15 = some (m + 11) ∧ jS J (m + 1) = (11, 64) ∧ jS J (m + 2) = (11, 64) ∧ jS J (m + 3) = (11, 64) ∧ jS J (m + 4) = (11, 64) ∧ jS J (m + 5) = (11, 64) ∧ jS J (m + 6) = (11, 64) ∧ jS J (m + 7) = (11, 64) ∧ jS J (m + 8) = (11, 64) ∧ jS J (m + 9) = (11, 3) ∧ jS J (m + 10) = (11, 3) ∧ jS J (m + 11) = (11, 2)
theorem MemL.k {J : MJ} {m n : Nat} (h : MemL J m n) : (jS J m).1 = 1 := h.1
theorem MemL.r0 {J : MJ} {m n : Nat} (h : MemL J m n) : jR J m 0 = some n := h.2.1
theorem MemL.r1 {J : MJ} {m n : Nat} (h : MemL J m n) : jR J m 1 = some (m + 1) := h.2.2.1
theorem MemL.r2 {J : MJ} {m n : Nat} (h : MemL J m n) : jR J m 2 = some (m + 2) := h.2.2.2.1
theorem MemL.r3 {J : MJ} {m n : Nat} (h : MemL J m n) : jR J m 3 = some (m + 3) := h.2.2.2.2.1
theorem MemL.r4 {J : MJ} {m n : Nat} (h : MemL J m n) : jR J m 4 = some (m + 4) := h.2.2.2.2.2.1
theorem MemL.r5 {J : MJ} {m n : Nat} (h : MemL J m n) : jR J m 5 = some (m + 5) := h.2.2.2.2.2.2.1
theorem MemL.r6 {J : MJ} {m n : Nat} (h : MemL J m n) : jR J m 6 = some (m + 6) := h.2.2.2.2.2.2.2.1
theorem MemL.r7 {J : MJ} {m n : Nat} (h : MemL J m n) : jR J m 7 = some (m + 7) := h.2.2.2.2.2.2.2.2.1
theorem MemL.r8 {J : MJ} {m n : Nat} (h : MemL J m n) : jR J m 8 = some (m + 8) := h.2.2.2.2.2.2.2.2.2.1
theorem MemL.r9 {J : MJ} {m n : Nat} (h : MemL J m n) : jR J m 9 = some (m + 9) := h.2.2.2.2.2.2.2.2.2.2.1
theorem MemL.r10 {J : MJ} {m n : Nat} (h : MemL J m n) : jR J m 10 = some (m + 10) := h.2.2.2.2.2.2.2.2.2.2.2.1
theorem MemL.r11 {J : MJ} {m n : Nat} (h : MemL J m n) : jR J m 15 = some (m + 11) := h.2.2.2.2.2.2.2.2.2.2.2.2.1
theorem MemL.s1 {J : MJ} {m n : Nat} (h : MemL J m n) : jS J (m + 1) = (11, 64) := h.2.2.2.2.2.2.2.2.2.2.2.2.2.1
theorem MemL.s2 {J : MJ} {m n : Nat} (h : MemL J m n) : jS J (m + 2) = (11, 64) := h.2.2.2.2.2.2.2.2.2.2.2.2.2.2.1
theorem MemL.s3 {J : MJ} {m n : Nat} (h : MemL J m n) : jS J (m + 3) = (11, 64) := h.2.2.2.2.2.2.2.2.2.2.2.2.2.2.2.1
theorem MemL.s4 {J : MJ} {m n : Nat} (h : MemL J m n) : jS J (m + 4) = (11, 64) := h.2.2.2.2.2.2.2.2.2.2.2.2.2.2.2.2.1
theorem MemL.s5 {J : MJ} {m n : Nat} (h : MemL J m n) : jS J (m + 5) = (11, 64) := h.2.2.2.2.2.2.2.2.2.2.2.2.2.2.2.2.2.1
theorem MemL.s6 {J : MJ} {m n : Nat} (h : MemL J m n) : jS J (m + 6) = (11, 64) := h.2.2.2.2.2.2.2.2.2.2.2.2.2.2.2.2.2.2.1
theorem MemL.s7 {J : MJ} {m n : Nat} (h : MemL J m n) : jS J (m + 7) = (11, 64) := h.2.2.2.2.2.2.2.2.2.2.2.2.2.2.2.2.2.2.2.1
theorem MemL.s8 {J : MJ} {m n : Nat} (h : MemL J m n) : jS J (m + 8) = (11, 64) := h.2.2.2.2.2.2.2.2.2.2.2.2.2.2.2.2.2.2.2.2.1
theorem MemL.s9 {J : MJ} {m n : Nat} (h : MemL J m n) : jS J (m + 9) = (11, 3) := h.2.2.2.2.2.2.2.2.2.2.2.2.2.2.2.2.2.2.2.2.2.1
theorem MemL.s10 {J : MJ} {m n : Nat} (h : MemL J m n) : jS J (m + 10) = (11, 3) := h.2.2.2.2.2.2.2.2.2.2.2.2.2.2.2.2.2.2.2.2.2.2.1
theorem MemL.s11 {J : MJ} {m n : Nat} (h : MemL J m n) : jS J (m + 11) = (11, 2) := h.2.2.2.2.2.2.2.2.2.2.2.2.2.2.2.2.2.2.2.2.2.2.2
def RouL (J : MJ) (r L : Nat) : Prop := (jS J r).1 = 4 ∧ jR J r 0 = some (r + 1) ∧ jS J (r + 1) = (11, L) ∧ L < 1000
theorem RouL.k {J : MJ} {r L : Nat} (h : RouL J r L) : (jS J r).1 = 4 := h.1
theorem RouL.r1 {J : MJ} {r L : Nat} (h : RouL J r L) : jR J r 0 = some (r + 1) := h.2.1
theorem RouL.s1 {J : MJ} {r L : Nat} (h : RouL J r L) : jS J (r + 1) = (11, L) := h.2.2.1
theorem RouL.b {J : MJ} {r L : Nat} (h : RouL J r L) : L < 1000 := h.2.2.2
def TapL (J : MJ) (t : Nat) : Prop := (jS J t).1 = 5 ∧ jR J t 0 = some (t + 1) ∧ jS J (t + 1) = (11, 400)
theorem TapL.k {J : MJ} {t : Nat} (h : TapL J t) : (jS J t).1 = 5 := h.1
theorem TapL.r1 {J : MJ} {t : Nat} (h : TapL J t) : jR J t 0 = some (t + 1) := h.2.1
theorem TapL.s1 {J : MJ} {t : Nat} (h : TapL J t) : jS J (t + 1) = (11, 400) := h.2.2

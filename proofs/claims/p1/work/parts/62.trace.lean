/-! Traces, by hand. -/
def TrcL (J : MJ) (y n : Nat) : Prop := (jS J y).1 = 6 ∧ jR J y 0 = some (y + 25) ∧ jR J y 3 = some (y + 1) ∧ jR J y 4 = some (y + 13) ∧ jR J y 5 = some (y + 26) ∧ jR J y 6 = some (y + 64) ∧ jS J (y + 25) = (13, 12) ∧ (∀ k, k < 12 → jR J (y + 25) k = some (y + 65 + 2 * k) ∧ RouL J (y + 65 + 2 * k) 12) ∧ jS J (y + 26) = (16, 37) ∧ (∀ r, r < 37 → jR J (y + 26) r = some (y + 27 + r) ∧ jS J (y + 27 + r) = (11, 12)) ∧ jS J (y + 64) = (11, 37) ∧ MemL J (y + 1) n ∧ MemL J (y + 13) n ∧ NodL J n ∧ n + 6 ≤ y
theorem TrcL.k {J : MJ} {y n : Nat} (h : TrcL J y n) : (jS J y).1 = 6 := h.1
theorem TrcL.r0 {J : MJ} {y n : Nat} (h : TrcL J y n) : jR J y 0 = some (y + 25) := h.2.1
theorem TrcL.r3 {J : MJ} {y n : Nat} (h : TrcL J y n) : jR J y 3 = some (y + 1) := h.2.2.1
theorem TrcL.r4 {J : MJ} {y n : Nat} (h : TrcL J y n) : jR J y 4 = some (y + 13) := h.2.2.2.1
theorem TrcL.r5 {J : MJ} {y n : Nat} (h : TrcL J y n) : jR J y 5 = some (y + 26) := h.2.2.2.2.1
theorem TrcL.r6 {J : MJ} {y n : Nat} (h : TrcL J y n) : jR J y 6 = some (y + 64) := h.2.2.2.2.2.1
theorem TrcL.s0 {J : MJ} {y n : Nat} (h : TrcL J y n) : jS J (y + 25) = (13, 12) := h.2.2.2.2.2.2.1
theorem TrcL.q {J : MJ} {y n : Nat} (h : TrcL J y n) {k : Nat} (hk : k < 12) : jR J (y + 25) k = some (y + 65 + 2 * k) ∧ RouL J (y + 65 + 2 * k) 12 := h.2.2.2.2.2.2.2.1 k hk
theorem TrcL.s5 {J : MJ} {y n : Nat} (h : TrcL J y n) : jS J (y + 26) = (16, 37) := h.2.2.2.2.2.2.2.2.1
theorem TrcL.g {J : MJ} {y n : Nat} (h : TrcL J y n) {r : Nat} (hr : r < 37) : jR J (y + 26) r = some (y + 27 + r) ∧ jS J (y + 27 + r) = (11, 12) := h.2.2.2.2.2.2.2.2.2.1 r hr
theorem TrcL.s6 {J : MJ} {y n : Nat} (h : TrcL J y n) : jS J (y + 64) = (11, 37) := h.2.2.2.2.2.2.2.2.2.2.1
theorem TrcL.b {J : MJ} {y n : Nat} (h : TrcL J y n) : MemL J (y + 1) n := h.2.2.2.2.2.2.2.2.2.2.2.1
theorem TrcL.t {J : MJ} {y n : Nat} (h : TrcL J y n) : MemL J (y + 13) n := h.2.2.2.2.2.2.2.2.2.2.2.2.1
theorem TrcL.n {J : MJ} {y n : Nat} (h : TrcL J y n) : NodL J n := h.2.2.2.2.2.2.2.2.2.2.2.2.2.1
theorem TrcL.d {J : MJ} {y n : Nat} (h : TrcL J y n) : n + 6 ≤ y := h.2.2.2.2.2.2.2.2.2.2.2.2.2.2
theorem TrcL.lq {J : MJ} {y n : Nat} (h : TrcL J y n) (I : MI) {k : Nat} (hk : k < 12) : ldR (I, J) (y + 25) (nI k) = some (some (y + 65 + 2 * k)) := by
  rw [ldR_ok _ h.s0 (by decide) (inb_nI hk (by decide)), show (nI k).toNatClampNeg = k from ix_nI (by omega)]
  exact congrArg some (h.q hk).1
theorem TrcL.lg {J : MJ} {y n : Nat} (h : TrcL J y n) (I : MI) {k : Nat} (hk : k < 37) : ldR (I, J) (y + 26) (nI k) = some (some (y + 27 + k)) := by
  rw [ldR_ok _ h.s5 (by decide) (inb_nI hk (by decide)), show (nI k).toNatClampNeg = k from ix_nI (by omega)]
  exact congrArg some (h.g hk).1
theorem TrcL.lt {J : MJ} {y n : Nat} (h : TrcL J y n) (I : MI) {k : Nat} (hk : k < 37) : ld (I, J) 11 (y + 64) (nI k) = some (I (y + 64) k) := by
  rw [ld_ok _ h.s6 (inb_nI hk (by decide)), show (nI k).toNatClampNeg = k from ix_nI (by omega)]
theorem TrcL.ll {J : MJ} {y n : Nat} (h : TrcL J y n) (I : MI) {r k : Nat} (hr : r < 37) (hk : k < 12) : ld (I, J) 11 (y + 27 + r) (nI k) = some (I (y + 27 + r) k) := by
  rw [ld_ok _ (h.g hr).2 (inb_nI hk (by decide)), show (nI k).toNatClampNeg = k from ix_nI (by omega)]
theorem t_X6_forget {J : MJ} {y n : Nat} (h : TrcL J y n) (I : MI) : M_X6_forget [mR (some y)] (I, J) = some (none, (up2 (up2 I y 1 0) y 2 (-1), J)) := by
  rw [E_X6_forget, wI_ok 1 _ h.k, Option.bind_some, wI_ok 2 _ h.k, Option.bind_some]
/-- whether row r fits -/
def fitB (I : MI) (y r : Nat) : Bool := decide (I y 2 = -1 ∨ I (y + 64) r = I y 2)
theorem t_X6_isFit {J : MJ} {y n : Nat} (h : TrcL J y n) (I : MI) {r : Nat} (hr : r < 37) : M_X6_isFit [mR (some y), mI (nI r)] (I, J) = some (some (mI (if fitB I y r = true then 1 else 0)), (I, J)) := by
  rw [E_X6_isFit, if_neg (nI_pos (by omega)), if_neg (show ¬ (37 : Int32) ≤ nI r from nI_ge hr (by decide))]
  simp only [fI_ok 2 h.k, fR_ok 6 h.k, h.r6, h.lt I hr, Option.bind_some]
  unfold fitB
  by_cases a : I y 2 = -1
  · simp [a]
  · by_cases b : I (y + 64) r = I y 2
    · simp [a, b]
    · simp [a, b]
def f_leastRoom (I : MI) (y : Nat) (x1 : Int32) : Option Nat := fst? (fun k => decide (¬ x1 < I (y + 64) k)) 0 37
def q_X6_leastRoom (I : MI) (y : Nat) (x1 : Int32) : Int32 := match f_leastRoom I y x1 with
  | some k => nI (4 + k)
  | none => -1
theorem nI_4 (k : Nat) : 4 + nI k = nI (4 + k) := by
  show Int32.ofNat 4 + Int32.ofNat k = Int32.ofNat (4 + k)
  rw [Int32.ofNat_add]
theorem t_X6_leastRoom {J : MJ} {y n : Nat} (h : TrcL J y n) (I : MI) (x1 : Int32) : M_X6_leastRoom [mR (some y), mI x1] (I, J) = some (some (mI (q_X6_leastRoom I y x1)), (I, J)) := by
  rw [E_X6_leastRoom]
  have step := loop_find (fun k => Ev T_X6_leastRoom 2 [some (mR (some y)), some (mI x1), some (mI (nI k))] [] (I, J)) (fun k => decide (¬ x1 < I (y + 64) k)) (fun k => some (some (mI (nI (4 + k))), (I, J))) 37 (fun k hk => by
    try dsimp only
    rw [E_X6_leastRoom_2, if_neg (show ¬ (37 : Int32) ≤ nI k from nI_ge hk (by decide))]
    simp only [fR_ok 6 h.k, h.r6, h.lt I hk, Option.bind_some, nI_1, nI_4]
    by_cases c : x1 < I (y + 64) k
    · simp [c]
    · simp [c]) 37 0 (by omega)
  try dsimp only at step
  rw [show (nI 0) = 0 from rfl] at step
  rw [step]
  unfold q_X6_leastRoom f_leastRoom
  cases fst? (fun k => decide (¬ x1 < I (y + 64) k)) 0 37 with
  | none =>
    show Ev T_X6_leastRoom 2 _ [] (I, J) = _
    rw [E_X6_leastRoom_2, if_pos (show (37 : Int32) ≤ nI 37 by decide)]
  | some j => rfl
def lp_fitting (I : MI) (y : Nat) (x1 : Int32) : Nat → Nat → Int32 → Int32
  | 0, _, x2 => if x1 = -1 then x2 else -1
  | f + 1, k, x2 => if fitB I y k = true then (if x2 = x1 then nI (4 + k) else lp_fitting I y x1 f (k + 1) (x2 + 1)) else lp_fitting I y x1 f (k + 1) x2
theorem lr_fitting {J : MJ} {y n : Nat} (h : TrcL J y n) (I : MI) (x1 : Int32) : ∀ (f k : Nat) (x2 : Int32), k + f = 37 → Ev T_X6_fitting 4 [some (mR (some y)), some (mI x1), some (mI x2), some (mI (nI k))] [] (I, J) = some (some (mI (lp_fitting I y x1 f k x2)), (I, J)) := by
  intro f
  induction f with
  | zero =>
    intro k x2 hk
    have hk : k = 37 := by omega
    subst hk
    rw [E_X6_fitting_4, if_pos (show (37 : Int32) ≤ nI 37 by decide)]
    unfold lp_fitting
    split <;> rfl
  | succ f ih =>
    intro k x2 hk
    rw [E_X6_fitting_4, if_neg (show ¬ (37 : Int32) ≤ nI k from nI_ge (show k < 37 by omega) (by decide)), if_pos (show kd (I, J) y = 6 from h.k), t_X6_isFit h I (by omega)]
    simp only [Option.bind_some, asI_I, nI_1, nI_4]
    unfold lp_fitting
    by_cases c : fitB I y k = true
    · simp only [if_pos c]
      rw [if_neg (show ¬ (1 : Int32) = 0 by decide)]
      by_cases d : x2 = x1
      · simp only [if_pos d]
      · simp only [if_neg d]
        exact ih (k + 1) _ (by omega)
    · simp only [if_neg c]
      rw [if_pos trivial]
      exact ih (k + 1) _ (by omega)
theorem t_X6_fitting {J : MJ} {y n : Nat} (h : TrcL J y n) (I : MI) (x1 : Int32) : M_X6_fitting [mR (some y), mI x1] (I, J) = some (some (mI (lp_fitting I y x1 37 0 0)), (I, J)) := by
  rw [E_X6_fitting]
  exact lr_fitting h I x1 37 0 0 rfl
def alike (I : MI) (y p r : Nat) : Nat := cnt (fun k => fitB I y k && decide (I (y + 27 + k) p = I (y + 27 + r) p)) 0 37
theorem t_X6_alikeFits {J : MJ} {y n : Nat} (h : TrcL J y n) (I : MI) {p r : Nat} (hp : p < 12) (hr : r < 37) : M_X6_alikeFits [mR (some y), mI (nI p), mI (nI r)] (I, J) = some (some (mI (nI (alike I y p r))), (I, J)) := by
  rw [E_X6_alikeFits, if_neg (nI_pos (by omega)), if_neg (show ¬ (12 : Int32) ≤ nI p from nI_ge hp (by decide)), if_neg (nI_pos (by omega)), if_pos (show nI r < 37 from Int32.not_le.mp (nI_ge hr (by decide)))]
  have step := loop_cnt (fun k c => Ev T_X6_alikeFits 27 [some (mR (some y)), some (mI (nI p)), some (mI (nI r)), some (mI (nI c)), some (mI (nI k))] [] (I, J)) (fun k => fitB I y k && decide (I (y + 27 + k) p = I (y + 27 + r) p)) 37 (fun k c hk => by
    try dsimp only
    rw [E_X6_alikeFits_27, if_neg (show ¬ (37 : Int32) ≤ nI k from nI_ge hk (by decide)), if_pos (show kd (I, J) y = 6 from h.k), t_X6_isFit h I hk]
    simp only [Option.bind_some, asI_I, nI_1, fR_ok 5 h.k, h.r5, h.lg I hk, h.lg I hr, h.ll I hk hp, h.ll I hr hp]
    by_cases a : fitB I y k = true
    · by_cases b : I (y + 27 + k) p = I (y + 27 + r) p
      · simp [a, b]
      · simp [a, b]
    · simp [a]) 37 0 0 (by omega)
  try dsimp only at step
  rw [show (nI 0) = 0 from rfl] at step
  rw [step, E_X6_alikeFits_27, if_pos (show (37 : Int32) ≤ nI 37 by decide), Nat.zero_add]
  rfl
def lp_mostLeft (I : MI) (y p : Nat) : Nat → Nat → Nat → Nat
  | 0, _, m => m
  | f + 1, k, m => lp_mostLeft I y p f (k + 1) (if fitB I y k = true then max m (alike I y p k) else m)
def mostL (I : MI) (y p : Nat) : Nat := lp_mostLeft I y p 37 0 0
theorem alike_le (I : MI) (y p r : Nat) : alike I y p r ≤ 37 := by
  have : ∀ (P : Nat → Bool) (n k : Nat), cnt P k n ≤ n := by
    intro P n
    induction n with
    | zero => intro k; exact Nat.le_refl _
    | succ n ih =>
      intro k
      unfold cnt
      have := ih (k + 1)
      split <;> omega
  exact this _ 37 0
theorem lr_mostLeft {J : MJ} {y n : Nat} (h : TrcL J y n) (I : MI) {p : Nat} (hp : p < 12) : ∀ (f k m : Nat), k + f = 37 → m ≤ 37 → Ev T_X6_mostLeft 4 [some (mR (some y)), some (mI (nI p)), some (mI (nI m)), some (mI (nI k))] [] (I, J) = some (some (mI (nI (lp_mostLeft I y p f k m))), (I, J)) := by
  intro f
  induction f with
  | zero =>
    intro k m hk hm
    have hk : k = 37 := by omega
    subst hk
    rw [E_X6_mostLeft_4, if_pos (show (37 : Int32) ≤ nI 37 by decide)]
    rfl
  | succ f ih =>
    intro k m hk hm
    rw [E_X6_mostLeft_4, if_neg (show ¬ (37 : Int32) ≤ nI k from nI_ge (show k < 37 by omega) (by decide)), if_pos (show kd (I, J) y = 6 from h.k), t_X6_isFit h I (by omega)]
    simp only [Option.bind_some, asI_I, nI_1]
    unfold lp_mostLeft
    by_cases c : fitB I y k = true
    · simp only [if_pos c]
      rw [if_neg (show ¬ (1 : Int32) = 0 by decide), if_pos (show kd (I, J) y = 6 from h.k), t_X6_alikeFits h I hp (show k < 37 by omega)]
      simp only [Option.bind_some, asI_I]
      have ha := alike_le I y p k
      have e : (if nI m < nI (alike I y p k) then nI (alike I y p k) else nI m) = nI (max m (alike I y p k)) := by
        by_cases d : m < alike I y p k
        · rw [if_pos (by rw [i32_lt, nI_toInt (by omega), nI_toInt (by omega)]; omega), show max m (alike I y p k) = alike I y p k by omega]
        · rw [if_neg (by rw [i32_lt, nI_toInt (by omega), nI_toInt (by omega)]; omega), show max m (alike I y p k) = m by omega]
      rw [e]
      exact ih (k + 1) _ (by omega) (by omega)
    · simp only [if_neg c]
      rw [if_pos trivial]
      exact ih (k + 1) _ (by omega) hm
theorem t_X6_mostLeft {J : MJ} {y n : Nat} (h : TrcL J y n) (I : MI) {p : Nat} (hp : p < 12) : M_X6_mostLeft [mR (some y), mI (nI p)] (I, J) = some (some (mI (nI (mostL I y p))), (I, J)) := by
  rw [E_X6_mostLeft]
  exact lr_mostLeft h I hp 37 0 0 rfl (by omega)

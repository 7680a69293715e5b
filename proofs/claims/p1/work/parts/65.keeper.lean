/-! The keeper's layout; its helpers. -/
def KL (J : MJ) : Prop := ((jS J 0).1 = 9 ∧ jR J 0 0 = some 7 ∧ jR J 0 1 = some 9 ∧ jR J 0 2 = some 16 ∧ jR J 0 3 = some 55 ∧ jR J 0 4 = some 67 ∧ jR J 0 5 = some 69 ∧ jR J 0 6 = some 158 ∧ jR J 0 7 = some 160 ∧ jR J 0 8 = some 162 ∧ jR J 0 9 = some 183 ∧ jR J 0 10 = some 185 ∧ jR J 0 12 = some 186 ∧ jR J 0 13 = some 187) ∧ (TapL J 7 ∧ RdrL J 9 10 ∧ NodL J 10 ∧ NodL J 1 ∧ WorL J 16 1 17 29 30 ∧ MemL J 17 1 ∧ HanL J 29 ∧ WksL J 30 31 ∧ MemL J 55 1 ∧ HisL J 67 68 ∧ TrcL J 69 1 ∧ TolL J 158 ∧ RouL J 183 60) ∧ jS J 185 = (11, 300) ∧ jS J 186 = (11, 6) ∧ jS J 187 = (11, 4)
theorem KL.k {J : MJ} (h : KL J) : (jS J 0).1 = 9 := h.1.1
theorem KL.r0 {J : MJ} (h : KL J) : jR J 0 0 = some 7 := h.1.2.1
theorem KL.r1 {J : MJ} (h : KL J) : jR J 0 1 = some 9 := h.1.2.2.1
theorem KL.r2 {J : MJ} (h : KL J) : jR J 0 2 = some 16 := h.1.2.2.2.1
theorem KL.r3 {J : MJ} (h : KL J) : jR J 0 3 = some 55 := h.1.2.2.2.2.1
theorem KL.r4 {J : MJ} (h : KL J) : jR J 0 4 = some 67 := h.1.2.2.2.2.2.1
theorem KL.r5 {J : MJ} (h : KL J) : jR J 0 5 = some 69 := h.1.2.2.2.2.2.2.1
theorem KL.r6 {J : MJ} (h : KL J) : jR J 0 6 = some 158 := h.1.2.2.2.2.2.2.2.1
theorem KL.r7 {J : MJ} (h : KL J) : jR J 0 7 = some 160 := h.1.2.2.2.2.2.2.2.2.1
theorem KL.r8 {J : MJ} (h : KL J) : jR J 0 8 = some 162 := h.1.2.2.2.2.2.2.2.2.2.1
theorem KL.r9 {J : MJ} (h : KL J) : jR J 0 9 = some 183 := h.1.2.2.2.2.2.2.2.2.2.2.1
theorem KL.r10 {J : MJ} (h : KL J) : jR J 0 10 = some 185 := h.1.2.2.2.2.2.2.2.2.2.2.2.1
theorem KL.r12 {J : MJ} (h : KL J) : jR J 0 12 = some 186 := h.1.2.2.2.2.2.2.2.2.2.2.2.2.1
theorem KL.r13 {J : MJ} (h : KL J) : jR J 0 13 = some 187 := h.1.2.2.2.2.2.2.2.2.2.2.2.2.2
theorem KL.tape {J : MJ} (h : KL J) : TapL J 7 := h.2.1.1
theorem KL.reader {J : MJ} (h : KL J) : RdrL J 9 10 := h.2.1.2.1
theorem KL.draft {J : MJ} (h : KL J) : NodL J 10 := h.2.1.2.2.1
theorem KL.nodes {J : MJ} (h : KL J) : NodL J 1 := h.2.1.2.2.2.1
theorem KL.world {J : MJ} (h : KL J) : WorL J 16 1 17 29 30 := h.2.1.2.2.2.2.1
theorem KL.mem {J : MJ} (h : KL J) : MemL J 17 1 := h.2.1.2.2.2.2.2.1
theorem KL.han {J : MJ} (h : KL J) : HanL J 29 := h.2.1.2.2.2.2.2.2.1
theorem KL.wks {J : MJ} (h : KL J) : WksL J 30 31 := h.2.1.2.2.2.2.2.2.2.1
theorem KL.trial {J : MJ} (h : KL J) : MemL J 55 1 := h.2.1.2.2.2.2.2.2.2.2.1
theorem KL.his {J : MJ} (h : KL J) : HisL J 67 68 := h.2.1.2.2.2.2.2.2.2.2.2.1
theorem KL.trc {J : MJ} (h : KL J) : TrcL J 69 1 := h.2.1.2.2.2.2.2.2.2.2.2.2.1
theorem KL.tol {J : MJ} (h : KL J) : TolL J 158 := h.2.1.2.2.2.2.2.2.2.2.2.2.2.1
theorem KL.long {J : MJ} (h : KL J) : RouL J 183 60 := h.2.1.2.2.2.2.2.2.2.2.2.2.2.2
theorem KL.wri {J : MJ} (h : KL J) : jS J 185 = (11, 300) := h.2.2.1
theorem KL.ref {J : MJ} (h : KL J) : jS J 186 = (11, 6) := h.2.2.2.1
theorem KL.out {J : MJ} (h : KL J) : jS J 187 = (11, 4) := h.2.2.2.2
theorem KL.fir {J : MJ} (h : KL J) : RouL J 158 12 := (h.tol.2 0 (by decide)).2
theorem KL.sec {J : MJ} (h : KL J) : RouL J 160 12 := (h.tol.2 1 (by decide)).2
/-- one refusal more -/
def rfz (I : MI) (k : Nat) : MI := up2 I 186 k (I 186 k + 1)
theorem u_refuse {J : MJ} (h : KL J) (I : MI) {k : Nat} (hk : k < 6) : M_X9_refuse [mR (some 0), mI (nI k)] (I, J) = some (some (mI (-1)), (rfz I k, J)) := by
  rw [E_X9_refuse, if_neg (nI_pos (by omega)), if_neg (show ¬ (6 : Int32) ≤ nI k from nI_ge hk (by decide))]
  simp only [fR_ok 12 h.k, h.r12, Option.bind_some, ld_ok _ h.ref (inb_nI hk (by decide)), st_ok _ _ h.ref (inb_nI hk (by decide))]
  rw [show (nI k).toNatClampNeg = k from ix_nI (by omega)]
  rfl
theorem u_refuseFlatly {J : MJ} (h : KL J) (I : MI) {k : Nat} (hk : k < 6) : M_X9_refuseFlatly [mR (some 0), mI (nI k)] (I, J) = some (some (mI 0), (rfz I k, J)) := by
  rw [E_X9_refuseFlatly, if_pos (show kd (I, J) 0 = 9 from h.k), u_refuse h I hk]
  simp [asI]
theorem u_orRefuse {J : MJ} (h : KL J) (I : MI) (x : Int32) {k : Nat} (hk : k < 6) : M_X9_orRefuse [mR (some 0), mI x, mI (nI k)] (I, J) = if 0 ≤ x then some (some (mI x), (I, J)) else some (some (mI (-1)), (rfz I k, J)) := by
  rw [E_X9_orRefuse]
  by_cases a : 0 ≤ x
  · rw [if_pos a, if_pos a]
  · rw [if_neg a, if_neg a, if_pos (show kd (I, J) 0 = 9 from h.k), u_refuse h I hk]
    rfl
theorem u_hasTrees {J : MJ} (h : KL J) (I : MI) : M_X9_hasTrees [mR (some 0)] (I, J) = some (some (mI (if I 1 6 ≤ 0 then 0 else 1)), (I, J)) := by
  rw [E_X9_hasTrees]
  simp only [fR_ok 2 h.k, h.r2, Option.bind_some, fR_ok 0 h.world.k, h.world.r0, fI_ok 6 h.nodes.k]
  by_cases a : I 1 6 ≤ 0
  · simp [a]
  · simp [a]
theorem u_isRoom (x : Int32) (s : MH) : M_X9_isRoom [mI x] s = some (some (mI (if x < 4 then 0 else if 40 < x then 0 else 1)), s) := by
  rw [E_X9_isRoom]
  by_cases a : x < 4
  · simp [a]
  · by_cases b : 40 < x
    · simp [a, b]
    · simp [a, b]
/-- the row of paths on the tape, from a place on -/
def lpRow (T : Nat) (Q : RouV) : Nat → Nat → Nat → Nat → MI → Int32 × MI
  | 0, _, c, _, I => (nI c, I)
  | f + 1, fr, c, pos, I => if pos < T ∧ ¬ q_X5_at Q (nI pos) = 32 then lpRow T Q f fr c (pos + 1) I else if 12 ≤ c then (-1, I) else if q_X4_readFrom 12 Q (vw 2 I (rr 158 c)) (nI fr) (nI pos) = 0 then (-1, pt I (rr 158 c) (gP_X4_readFrom 12 Q (vw 2 I (rr 158 c)) (nI fr) (nI pos))) else lpRow T Q f (pos + 1) (c + 1) (pos + 1) (pt I (rr 158 c) (gP_X4_readFrom 12 Q (vw 2 I (rr 158 c)) (nI fr) (nI pos)))
theorem lr_readRow {J : MJ} (h : KL J) {T : Nat} (hT : T ≤ 400) (Q : RouV) (hQ : Q 0 1 = nI T) : ∀ (f fr c pos : Nat) (I : MI), vw 2 I 7 = Q → pos + f = T + 1 → c ≤ 12 → Ev T_X9_readRow 7 [some (mR (some 7)), some (mR (some 162)), some (mI (nI fr)), some (mI (nI c)), some (mI (nI pos)), none] [] (I, J) = some (some (mI (lpRow T Q f fr c pos I).1), ((lpRow T Q f fr c pos I).2, J)) := by
  intro f
  induction f with
  | zero =>
    intro fr c pos I hI hp hc
    have hl : I 7 1 = nI T := by rw [← hQ, ← hI]; rfl
    rw [E_X9_readRow_7, fI_ok 1 h.tape.k, Option.bind_some, hl, if_pos (by rw [i32_lt, nI_toInt (by omega), nI_toInt (by omega)]; omega)]
    rfl
  | succ f ih =>
    intro fr c pos I hI hp hc
    have hl : I 7 1 = nI T := by rw [← hQ, ← hI]; rfl
    have body : ((aln (I, J) 162).bind fun v13 => (if v13 ≤ nI c then (cR none (some (some (mI ((-1))), (I, J))) (none.bind fun b15 => (if kd (I, J) b15 = 4 then (M_X4_readFrom [mR (some b15), mR (some 7), mI (nI fr), mI (nI pos)] (I, J)).bind fun u14 => (asI u14.1).bind fun y16 => (if y16 = 0 then some (some (mI ((-1))), u14.2) else Ev T_X9_readRow 7 [some (mR (some 7)), some (mR (some 162)), some (mI (nI pos + 1)), some (mI (nI c + 1)), some (mI (nI pos + 1)), none] [] u14.2) else none))) else (ldR (I, J) 162 (nI c)).bind fun v17 => (cR v17 (some (some (mI ((-1))), (I, J))) (v17.bind fun b19 => (if kd (I, J) b19 = 4 then (M_X4_readFrom [mR (some b19), mR (some 7), mI (nI fr), mI (nI pos)] (I, J)).bind fun u18 => (asI u18.1).bind fun y20 => (if y20 = 0 then some (some (mI ((-1))), u18.2) else Ev T_X9_readRow 7 [some (mR (some 7)), some (mR (some 162)), some (mI (nI pos + 1)), some (mI (nI c + 1)), some (mI (nI pos + 1)), none] [] u18.2) else none))))) = some (some (mI (if 12 ≤ c then ((-1 : Int32), I) else if q_X4_readFrom 12 Q (vw 2 I (rr 158 c)) (nI fr) (nI pos) = 0 then (-1, pt I (rr 158 c) (gP_X4_readFrom 12 Q (vw 2 I (rr 158 c)) (nI fr) (nI pos))) else lpRow T Q f (pos + 1) (c + 1) (pos + 1) (pt I (rr 158 c) (gP_X4_readFrom 12 Q (vw 2 I (rr 158 c)) (nI fr) (nI pos)))).1), ((if 12 ≤ c then ((-1 : Int32), I) else if q_X4_readFrom 12 Q (vw 2 I (rr 158 c)) (nI fr) (nI pos) = 0 then (-1, pt I (rr 158 c) (gP_X4_readFrom 12 Q (vw 2 I (rr 158 c)) (nI fr) (nI pos))) else lpRow T Q f (pos + 1) (c + 1) (pos + 1) (pt I (rr 158 c) (gP_X4_readFrom 12 Q (vw 2 I (rr 158 c)) (nI fr) (nI pos)))).2, J)) := by
      rw [aln_ok (a := 162) (n := 12) (d := 13) h.tol.1 (by decide), Option.bind_some]
      by_cases a : 12 ≤ c
      · rw [if_pos (by rw [i32_le, nI_toInt (by omega), nI_toInt (by omega)]; omega), cR_n]
        simp only [if_pos a]
      · have hc12 : c < 12 := by omega
        have d7 : 7 + 2 ≤ rr 158 c ∨ rr 158 c + 2 ≤ 7 := by unfold rr; split <;> omega
        rw [if_neg (by rw [i32_le, nI_toInt (by omega), nI_toInt (by omega)]; omega), show ldR (I, J) 162 (nI c) = some (some (rr 158 c)) from h.tol.l I hc12, Option.bind_some, cR_s, Option.bind_some, if_pos (show kd (I, J) (rr 158 c) = 4 from (h.tol.2 c hc12).2.k), t_X4_readFrom h.tape (h.tol.2 c hc12).2 d7 I, hI]
        simp only [Option.bind_some, asI_I, if_neg a, nI_1]
        by_cases b : q_X4_readFrom 12 Q (vw 2 I (rr 158 c)) (nI fr) (nI pos) = 0
        · simp only [if_pos b]
        · simp only [if_neg b]
          exact ih _ _ _ _ (by rw [vw_out I _ d7]; exact hI) (by omega) (by omega)
    rw [E_X9_readRow_7, fI_ok 1 h.tape.k, Option.bind_some, hl, if_neg (by rw [i32_lt, nI_toInt (by omega), nI_toInt (by omega)]; omega), Option.bind_some]
    unfold lpRow
    by_cases a : pos < T
    · rw [if_neg (by rw [i32_le, nI_toInt (by omega), nI_toInt (by omega)]; omega), if_pos (show kd (I, J) 7 = 5 from h.tape.k), t_X5_at h.tape I, hI]
      simp only [Option.bind_some, asI_I]
      by_cases b : q_X5_at Q (nI pos) = 32
      · rw [if_pos b, if_neg (fun q => q.2 b)]
        exact body
      · rw [if_neg b, if_pos ⟨a, b⟩, nI_1]
        exact ih _ _ _ _ hI (by omega) hc
    · rw [if_pos (by rw [i32_le, nI_toInt (by omega), nI_toInt (by omega)]; omega), if_neg (fun q => a q.1)]
      exact body

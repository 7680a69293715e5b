/-! Public calls of the class, those that keep no world. -/
def fedQ (Q : RouV) (a b c d e : Int32) : RouV := gQ_X5_addWord (gQ_X5_addWord (gQ_X5_addWord (gQ_X5_addWord (gQ_X5_addWord Q a) b) c) d) e
theorem u_feed {J : MJ} (h : KL J) (I : MI) (a b c d e : Int32) : M_X9_feed [mR (some 0), mI a, mI b, mI c, mI d, mI e] (I, J) = if q_X5_hasSpace (vw 2 I 7) 20 = 0 then some (some (mI (-1)), (rfz I 0, J)) else some (some (mI (fedQ (vw 2 I 7) a b c d e 0 1)), (pt I 7 (fedQ (vw 2 I 7) a b c d e), J)) := by
  have k5 : ∀ X : MI, kd (X, J) 7 = 5 := fun X => h.tape.k
  have k9 : ∀ X : MI, kd (X, J) 0 = 9 := fun X => h.k
  rw [E_X9_feed]
  simp only [fR_ok 0 h.k, h.r0, Option.bind_some]
  rw [if_pos (k5 I), t_X5_hasSpace h.tape I]
  simp only [Option.bind_some, asI_I]
  by_cases q : q_X5_hasSpace (vw 2 I 7) 20 = 0
  · rw [if_pos q, if_pos q, if_pos (k9 I), show (0 : Int32) = nI 0 from rfl, u_refuse h I (by decide)]
    rfl
  · rw [if_neg q, if_neg q]
    simp only [fR_ok 0 h.k, h.r0, Option.bind_some]
    rw [if_pos (k5 I), t_X5_addWord h.tape]
    simp only [Option.bind_some, asV_n, fR_ok 0 h.k, h.r0]
    rw [if_pos (k5 _), t_X5_addWord h.tape, pt_pt, vw_pt]
    simp only [Option.bind_some, asV_n, fR_ok 0 h.k, h.r0]
    rw [if_pos (k5 _), t_X5_addWord h.tape, pt_pt, vw_pt]
    simp only [Option.bind_some, asV_n, fR_ok 0 h.k, h.r0]
    rw [if_pos (k5 _), t_X5_addWord h.tape, pt_pt, vw_pt]
    simp only [Option.bind_some, asV_n, fR_ok 0 h.k, h.r0]
    rw [if_pos (k5 _), t_X5_addWord h.tape, pt_pt, vw_pt]
    simp only [Option.bind_some, asV_n, fR_ok 0 h.k, h.r0, fI_ok 1 h.tape.k]
    rw [p2_0]
    rfl
theorem u_end {J : MJ} (h : KL J) (I : MI) (x : Int32) : M_X9_end [mR (some 0), mI x] (I, J) = if q_X5_cut (vw 2 I 7) x = 0 then some (some (mI 0), (rfz (pt I 7 (gQ_X5_cut (vw 2 I 7) x)) 0, J)) else some (some (mI 1), (pt I 7 (gQ_X5_cut (vw 2 I 7) x), J)) := by
  rw [E_X9_end]
  simp only [fR_ok 0 h.k, h.r0, Option.bind_some]
  rw [if_pos (show kd (I, J) 7 = 5 from h.tape.k), t_X5_cut h.tape I]
  simp only [Option.bind_some, asI_I]
  by_cases q : q_X5_cut (vw 2 I 7) x = 0
  · rw [if_pos q, if_pos q, if_pos (show kd (_, J) 0 = 9 from h.k), show M_X9_refuseFlatly [mR (some 0), mI 0] _ = _ from u_refuseFlatly h _ (k := 0) (by decide)]
    simp [asI]
  · rw [if_neg q, if_neg q]
    simp
theorem u_fault {J : MJ} (h : KL J) (I : MI) (x : Int32) : M_X9_fault [mR (some 0), mI x] (I, J) = some (some (mI (if x = 0 then I 9 1 else if x = 1 then I 9 2 else -1)), (I, J)) := by
  rw [E_X9_fault]
  simp only [fR_ok 1 h.k, h.r1, Option.bind_some, fI_ok 1 h.reader.k, fI_ok 2 h.reader.k]
  by_cases a : x = 0
  · rw [if_pos a, if_pos a]
  · rw [if_neg a, if_neg a]
    by_cases b : x = 1
    · rw [if_pos b, if_pos b]
    · rw [if_neg b, if_neg b]
theorem u_node {J : MJ} (h : KL J) (I : MI) (x y : Int32) : M_X9_node [mR (some 0), mI x, mI y] (I, J) = some (some (mI (q_X2_tell (vw 6 I 1) x y)), (I, J)) := by
  rw [E_X9_node]
  simp only [fR_ok 2 h.k, h.r2, Option.bind_some, fR_ok 0 h.world.k, h.world.r0]
  rw [if_pos (show kd (I, J) 1 = 2 from h.nodes.k), t_X2_tell h.nodes I]
  rfl
theorem u_entry {J : MJ} (h : KL J) (I : MI) (x y : Int32) : M_X9_entry [mR (some 0), mI x, mI y] (I, J) = some (some (mI (q_X1_tell (vw 12 I 17) x y)), (I, J)) := by
  rw [E_X9_entry]
  simp only [fR_ok 2 h.k, h.r2, Option.bind_some, fR_ok 1 h.world.k, h.world.r1]
  rw [if_pos (show kd (I, J) 17 = 1 from h.mem.k), t_X1_tell h.mem I]
  rfl
theorem u_handle {J : MJ} (h : KL J) (I : MI) (x : Int32) : M_X9_handle [mR (some 0), mI x] (I, J) = some (some (mI (q_X8_handleAt (vw 1 I 16) (vw 1 I 29) x)), (I, J)) := by
  rw [E_X9_handle]
  simp only [fR_ok 2 h.k, h.r2, Option.bind_some]
  rw [if_pos (show kd (I, J) 16 = 8 from h.world.k), t_X8_handleAt h.world h.han (by decide) I]
  rfl
def tlw (I : MI) (x y : Int32) : Int32 := match q_X8_walkerAt I 31 x with
  | none => -1
  | some w => q_X7_tell 12 (vw 1 I w) (vw 2 I (w + 1)) (vw 3 I (w + 3)) y
theorem walkerAt_some {I : MI} {w0 w : Nat} {x : Int32} (h : q_X8_walkerAt I w0 x = some w) : ∃ k, k < 4 ∧ x = nI k ∧ w = w0 + 6 * k ∧ ¬ wz I w0 k = 0 := by
  unfold q_X8_walkerAt at h
  by_cases a : x < 0
  · rw [if_pos a] at h; cases h
  · rw [if_neg a] at h
    by_cases b : (4 : Int32) ≤ x
    · rw [if_pos b] at h; cases h
    · rw [if_neg b] at h
      by_cases c : wz I w0 (ix x) = 0
      · rw [if_pos c] at h; cases h
      · rw [if_neg c] at h
        cases h
        refine ⟨ix x, inb_ix rfl a b, ?_, rfl, c⟩
        apply Int32.toInt_inj.mp
        have hx := inb_ix (n := 4) rfl a b
        rw [nI_toInt (by omega)]
        have a' := i32_le.mp (Int32.not_lt.mp a)
        have e0 : (0 : Int32).toInt = 0 := rfl
        rw [e0] at a'
        show x.toInt = ((x.toInt.toNat : Nat) : Int)
        omega
theorem u_walker {J : MJ} (h : KL J) (I : MI) (x y : Int32) : M_X9_walker [mR (some 0), mI x, mI y] (I, J) = some (some (mI (tlw I x y)), (I, J)) := by
  rw [E_X9_walker]
  simp only [fR_ok 2 h.k, h.r2, Option.bind_some]
  rw [if_pos (show kd (I, J) 16 = 8 from h.world.k), t_X8_walkerAt h.world h.wks I]
  simp only [Option.bind_some, asR_R]
  unfold tlw
  cases hq : q_X8_walkerAt I 31 x with
  | none => rfl
  | some w =>
    obtain ⟨k, hk, _, hw, _⟩ := walkerAt_some hq
    subst hw
    have q := h.wks.2 k hk
    rw [cR_s, Option.bind_some, if_pos (show kd (I, J) (31 + 6 * k) = 7 from q.2.1.k), t_X7_tell q.2.1 q.2.2.1 q.2.2.2 (by omega) (by omega) (by omega) I]
    rfl
theorem u_octet {J : MJ} (h : KL J) (I : MI) (x : Int32) : M_X9_octet [mR (some 0), mI x] (I, J) = some (some (mI (if x < 0 then -1 else if I 0 11 ≤ x then -1 else if 300 ≤ x then -1 else I 185 (ix x))), (I, J)) := by
  rw [E_X9_octet]
  simp only [fI_ok 11 h.k, fR_ok 10 h.k, h.r10, Option.bind_some, aln_ok h.wri (by decide)]
  rw [show nI 300 = 300 from rfl]
  by_cases a : x < 0
  · simp only [if_pos a]
  · simp only [if_neg a]
    by_cases b : I 0 11 ≤ x
    · simp only [if_pos b]
    · simp only [if_neg b]
      by_cases c : 300 ≤ x
      · simp only [if_pos c]
      · simp only [if_neg c, ld_ok _ h.wri (inb_of rfl a c), Option.bind_some]
theorem u_status {J : MJ} (h : KL J) (I : MI) (x : Int32) : M_X9_status [mR (some 0), mI x] (I, J) = some (some (mI (if x < 0 then -1 else if 6 ≤ x then -1 else I 186 (ix x))), (I, J)) := by
  rw [E_X9_status]
  simp only [fR_ok 12 h.k, h.r12, Option.bind_some]
  by_cases a : x < 0
  · simp only [if_pos a]
  · simp only [if_neg a]
    by_cases c : 6 ≤ x
    · simp only [if_pos c]
    · simp only [if_neg c, ld_ok _ h.ref (inb_of rfl a c), Option.bind_some]
theorem u_result {J : MJ} (h : KL J) (I : MI) (x : Int32) : M_X9_result [mR (some 0), mI x] (I, J) = some (some (mI (if bz (I 0 14) = 0 then -1 else if x < 0 then -1 else if 4 ≤ x then -1 else I 187 (ix x))), (I, J)) := by
  rw [E_X9_result, fZ_ok 14 h.k, Option.bind_some]
  simp only [fR_ok 13 h.k, h.r13, Option.bind_some]
  by_cases z : bz (I 0 14) = 0
  · simp only [if_pos z]
  · simp only [if_neg z]
    by_cases a : x < 0
    · simp only [if_pos a]
    · simp only [if_neg a]
      by_cases c : 4 ≤ x
      · simp only [if_pos c]
      · simp only [if_neg c, ld_ok _ h.out (inb_of rfl a c), Option.bind_some]
theorem u_seed {J : MJ} (h : KL J) (I : MI) (x : Int32) : M_X9_seed [mR (some 0), mI x] (I, J) = if 0 ≤ x then some (some (mI 1), (I, (up2 J.1 0 15 (Int32.toInt64 x), J.2))) else some (some (mI 0), (rfz I 5, J)) := by
  have w : ∀ v, wL (I, J) 9 0 15 v = some (I, (up2 J.1 0 15 v, J.2)) := fun v => if_pos h.k
  rw [E_X9_seed]
  by_cases a : 0 ≤ x
  · rw [if_pos a, if_pos a, w, Option.bind_some]
    simp
  · rw [if_neg a, if_neg a, if_pos (show kd (I, J) 0 = 9 from h.k), show (5 : Int32) = nI 5 from rfl, u_refuseFlatly h I (by decide)]
    simp [asI]
theorem u_see {J : MJ} (h : KL J) (I : MI) (x : Int32) : M_X9_see [mR (some 0), mI x] (I, J) = if I 69 1 = 0 ∨ ¬ 0 ≤ x then some (some (mI 0), (rfz I 5, J)) else some (some (mI 1), (up2 I 69 2 x, J)) := by
  rw [E_X9_see]
  simp only [fR_ok 5 h.k, h.r5, Option.bind_some, fI_ok 1 h.trc.k]
  by_cases a : I 69 1 = 0
  · rw [if_pos a, if_pos (Or.inl a), if_pos (show kd (I, J) 0 = 9 from h.k), show (5 : Int32) = nI 5 from rfl, u_refuseFlatly h I (by decide)]
    simp [asI]
  · rw [if_neg a]
    by_cases b : 0 ≤ x
    · rw [if_pos b, if_neg (fun q => q.elim a (fun z => z b)), wI_ok 2 _ h.trc.k, Option.bind_some]
      simp
    · rw [if_neg b, if_pos (Or.inr b), if_pos (show kd (I, J) 0 = 9 from h.k), show (5 : Int32) = nI 5 from rfl, u_refuseFlatly h I (by decide)]
      simp [asI]
theorem u_child {J : MJ} (h : KL J) (I : MI) (x : Int32) : M_X9_child [mR (some 0), mI x] (I, J) = some (some (mI (if q_X9_nameBetween (vw 2 I 7) 0 (I 7 1) = 0 then -1 else q_X1_find (vw 12 I 17) x (q_X9_nameBetween (vw 2 I 7) 0 (I 7 1)))), (clr I, J)) := by
  rw [E_X9_child]
  simp only [fR_ok 0 h.k, h.r0, Option.bind_some, fI_ok 1 h.tape.k]
  rw [t_X9_nameBetween h.tape I]
  simp only [Option.bind_some, asI_I, fR_ok 0 h.k, h.r0]
  rw [if_pos (show kd (I, J) 7 = 5 from h.tape.k), t_X5_clear h.tape I]
  simp only [Option.bind_some, asV_n, fR_ok 2 h.k, h.r2, fR_ok 1 h.world.k, h.world.r1]
  by_cases a : q_X9_nameBetween (vw 2 I 7) 0 (I 7 1) = 0
  · rw [if_pos a, if_pos a]
    rfl
  · rw [if_neg a, if_neg a, if_pos (show kd (_, J) 17 = 1 from h.mem.k), t_X1_find h.mem, vw_out I _ (by decide)]
    rfl

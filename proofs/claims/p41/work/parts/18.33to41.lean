section
/-! Methods: their tables (what the kernel looks through), what they do, their contracts; walks to the next cut. Written by wip/whole/gen. -/

noncomputable def T_X10_tells : MT := ([(0, e0 (.aload_n 0) 1), (1, e0 (.getfield 173) 4), (4, eJ (.ifCond .eq 20) 7 24), (7, e0 (.iload_n 1) 8), (8, e0 .i2l 9), (9, eL (.lconst 0) 10 0), (10, eL (.lconst 1) 11 1), (11, e0 (.invokestatic 99) 14), (14, eJ (.ifCond .eq 10) 17 24), (17, e0 (.aload_n 0) 18), (18, e0 (.invokevirtual 422) 21), (21, eJ (.ifCond .ne 5) 24 26), (24, eC (.iconst (-1)) 25 (-1)), (25, e0 .ireturn 26), (26, eC (.iconst 0) 27 0), (27, e0 (.istore_n 2) 28), (28, eC (.iconst 1) 29 1), (29, e0 (.istore_n 3) 30), (30, e0 (.iload_n 3) 31), (31, e0 (.aload_n 0) 32), (32, e0 (.getfield 173) 35), (35, eJ (.if_icmp .ge 24) 38 59), (38, e0 (.aload_n 0) 39), (39, e0 (.iload_n 3) 40), (40, e0 (.invokevirtual 425) 43), (43, e0 (.aload_n 0) 44), (44, e0 (.iload_n 2) 45), (45, e0 (.invokevirtual 425) 48), (48, eJ (.if_icmp .ge 5) 51 53), (51, e0 (.iload_n 3) 52), (52, e0 (.istore_n 2) 53), (53, eC (.iinc 3 1) 56 1), (56, eJ (.goto (-26)) 59 30), (59, e0 (.iload_n 1) 60), (60, eJ (.ifCond .ne 7) 63 67), (63, e0 (.iload_n 2) 64), (64, eJ (.goto 8) 67 72), (67, e0 (.aload_n 0) 68), (68, e0 (.iload_n 2) 69), (69, e0 (.invokevirtual 425) 72), (72, e0 .ireturn 73)], [(30, [true, true, true, true])], [(173, 10, 36, 0)], [(99, 3, 99, 1, M_X10_isIn), (422, 0, 10, 1, M_X10_laysFits), (425, 1, 10, 1, M_X10_mostBy)], 1)
noncomputable def M_X10_tells : MF := runT T_X10_tells 4
set_option maxRecDepth 100000 in
theorem S_X10_tells : Sd yX10_tells cX10_tells 4 (some .int) 11 251 M_X10_tells := sd_of (own := RX10) (ini := false) (fi := [(173, 1357, false)]) (ci := [(99, yX10_isIn, cX10_isIn, 6, (some .boolean), 0, 0, 0, [1473, 1475, 130, 1474]), (422, yX10_laysFits, cX10_laysFits, 4, (some .int), 10, 228, 1, [1932, 1935, 130, 1934, 115]), (425, yX10_mostBy, cX10_mostBy, 6, (some .int), 1, 20, 1, [1940, 1943, 130, 1942, 116])]) (by decide) rfl (fun h => by cases h) (Or.inr (Or.inl ⟨rfl, rfl⟩)) (tab_of (by decide +kernel) (all2_c (fchk_g rfl rfl rfl wd_1357) (all2_n)) (all2_c (cchk_0 wd_1473 wd_1475 wd_130 nm_yX10_isIn_3 rfl rfl wd_1474 rfl) (all2_c (cchk_1 wd_1932 wd_1935 wd_130 nm_yX10_laysFits_0 rfl rfl wd_1934 rfl wd_115) (all2_c (cchk_1 wd_1940 wd_1943 wd_130 nm_yX10_mostBy_1 rfl rfl wd_1942 rfl wd_116) (all2_n))))) ⟨sd_in S_X10_isIn, sd_in S_X10_laysFits, sd_in S_X10_mostBy, trivial⟩
set_option maxRecDepth 100000 in
theorem E_X10_tells (a0 : Nat) (x1 : Int32) (s : MH) : M_X10_tells [mR (some a0), mI x1] s = (fI s 10 a0 36).bind fun v1 => (if v1 = 0 then some (some (mI ((-1))), s) else (M_X10_isIn [mL (Int32.toInt64 x1), mL 0, mL 1] s).bind fun u2 => (asI u2.1).bind fun y3 => (if y3 = 0 then some (some (mI ((-1))), u2.2) else (if kd u2.2 a0 = 10 then (M_X10_laysFits [mR (some a0)] u2.2).bind fun u4 => (asI u4.1).bind fun y5 => (if y5 = 0 then some (some (mI ((-1))), u4.2) else Ev T_X10_tells 30 [some (mR (some a0)), some (mI x1), some (mI 0), some (mI 1)] [] u4.2) else none))) := (show M_X10_tells [mR (some a0), mI x1] s = Ev T_X10_tells 0 [some (mR (some a0)), some (mI x1), none, none] [] s from rfl).trans ((Ev_seg T_X10_tells 18 0 [some (mR (some a0)), some (mI x1), none, none] [] s).trans rfl)
set_option maxRecDepth 100000 in
theorem E_X10_tells_30 (a0 : Nat) (x1 : Int32) (x2 : Int32) (x3 : Int32) (s : MH) : Ev T_X10_tells 30 [some (mR (some a0)), some (mI x1), some (mI x2), some (mI x3)] [] s = (fI s 10 a0 36).bind fun v1 => (if v1 ≤ x3 then (if x1 = 0 then some (some (mI x2), s) else (if kd s a0 = 10 then (M_X10_mostBy [mR (some a0), mI x2] s).bind fun u2 => (asI u2.1).bind fun y3 => some (some (mI y3), u2.2) else none)) else (if kd s a0 = 10 then (M_X10_mostBy [mR (some a0), mI x3] s).bind fun u4 => (asI u4.1).bind fun y5 => (if kd u4.2 a0 = 10 then (M_X10_mostBy [mR (some a0), mI x2] u4.2).bind fun u6 => (asI u6.1).bind fun y7 => (if y7 ≤ y5 then Ev T_X10_tells 30 [some (mR (some a0)), some (mI x1), some (mI x2), some (mI (x3 + 1))] [] u6.2 else Ev T_X10_tells 30 [some (mR (some a0)), some (mI x1), some (mI x3), some (mI (x3 + 1))] [] u6.2) else none) else none)) := (Ev_seg T_X10_tells 17 30 [some (mR (some a0)), some (mI x1), some (mI x2), some (mI x3)] [] s).trans rfl
end
section
/-! Pure pictures: windows of the heap's ints, the heap's other maps as they lie. -/
abbrev MJ : Type := (Nat → Nat → Int64) × (Nat → Nat → Option Nat) × (Nat → Nat × Nat) × Nat × Nat
abbrev MI : Type := Nat → Nat → Int32
abbrev jR (J : MJ) : Nat → Nat → Option Nat := J.2.1
abbrev jS (J : MJ) : Nat → Nat × Nat := J.2.2.1
theorem fI_ok {I : MI} {J : MJ} {c a : Nat} (k : Nat) (h : (jS J a).1 = c) : fI (I, J) c a k = some (I a k) := if_pos h
theorem fZ_ok {I : MI} {J : MJ} {c a : Nat} (k : Nat) (h : (jS J a).1 = c) : fZ (I, J) c a k = some (bz (I a k)) := if_pos h
theorem fL_ok {I : MI} {J : MJ} {c a : Nat} (k : Nat) (h : (jS J a).1 = c) : fL (I, J) c a k = some (J.1 a k) := if_pos h
theorem fR_ok {I : MI} {J : MJ} {c a : Nat} (k : Nat) (h : (jS J a).1 = c) : fR (I, J) c a k = some (jR J a k) := if_pos h
theorem wI_ok {I : MI} {J : MJ} {c a : Nat} (k : Nat) (v : Int32) (h : (jS J a).1 = c) : wI (I, J) c a k v = some (up2 I a k v, J) := if_pos h
theorem wZ_ok {I : MI} {J : MJ} {c a : Nat} (k : Nat) (v : Int32) (h : (jS J a).1 = c) (hv : v = 0 ∨ v = 1) : wZ (I, J) c a k v = some (up2 I a k v, J) := if_pos ⟨h, hv⟩
theorem ld_ok {I : MI} {J : MJ} {d a n : Nat} (j : Int32) (h : jS J a = (d, n)) (hj : inb j n) : ld (I, J) d a j = some (I a j.toNatClampNeg) := by
  unfold ld
  rw [if_pos]
  exact ⟨by show (jS J a).1 = d; rw [h], by show inb j (jS J a).2; rw [h]; exact hj⟩
theorem st_ok {I : MI} {J : MJ} {d a n : Nat} (j v : Int32) (h : jS J a = (d, n)) (hj : inb j n) : st (I, J) d a j v = some (up2 I a j.toNatClampNeg v, J) := by
  unfold st
  rw [if_pos]
  exact ⟨by show (jS J a).1 = d; rw [h], by show inb j (jS J a).2; rw [h]; exact hj⟩
theorem ldR_ok {I : MI} {J : MJ} {d a n : Nat} (j : Int32) (h : jS J a = (d, n)) (hd : 13 ≤ d ∧ d ≤ 16) (hj : inb j n) : ldR (I, J) a j = some (jR J a j.toNatClampNeg) := by
  unfold ldR
  rw [if_pos]
  exact ⟨by show 13 ≤ (jS J a).1 ∧ (jS J a).1 ≤ 16; rw [h]; exact hd, by show inb j (jS J a).2; rw [h]; exact hj⟩
theorem aln_ok {I : MI} {J : MJ} {d a n : Nat} (h : jS J a = (d, n)) (hd : 11 ≤ d ∧ d ≤ 16) : aln (I, J) a = some (nI n) := by
  unfold aln
  rw [if_pos]
  · show some (Int32.ofNat (jS J a).2) = _; rw [h]; rfl
  · show 11 ≤ (jS J a).1 ∧ (jS J a).1 ≤ 16; rw [h]; exact hd
theorem cpy_ok {I : MI} {J : MJ} {a b n : Nat} (ha : jS J a = (11, n)) (hb : jS J b = (11, n)) (hn : n < 2 ^ 31) (hab : a ≠ b) (w : Int32) (hw : w = nI n) : cpy (I, J) a 0 b 0 w = some (fun x y => if x = b ∧ y < n then I a y else I x y, J) := by
  subst hw
  unfold cpy
  have e0 : Int32.toNatClampNeg 0 = 0 := rfl
  have en : (nI n).toNatClampNeg = n := nI_clamp hn
  have ka : kd (I, J) a = 11 := by show (jS J a).1 = 11; rw [ha]
  have kb : kd (I, J) b = 11 := by show (jS J b).1 = 11; rw [hb]
  have la : ln (I, J) a = n := by show (jS J a).2 = n; rw [ha]
  have lb : ln (I, J) b = n := by show (jS J b).2 = n; rw [hb]
  rw [if_pos ⟨ka, kb, by decide, by decide, nI_pos hn, by rw [e0, en, la]; omega, by rw [e0, en, lb]; omega, hab⟩]
  rw [e0, en]
  congr 2
  funext x y
  by_cases h : x = b ∧ y < n
  · rw [if_pos h, if_pos ⟨h.1, Nat.zero_le _, by omega⟩]
    show I a (0 + (y - 0)) = I a y
    rw [Nat.zero_add, Nat.sub_zero]
  · rw [if_neg h, if_neg (fun q => h ⟨q.1, by have := q.2.2; omega⟩)]
abbrev ix (e : Int32) : Nat := e.toNatClampNeg
theorem inb_nI {j n : Nat} (h : j < n) (hn : n < 2 ^ 31) : inb (nI j) n := vp_in_nI h hn
theorem ix_nI {j : Nat} (h : j < 2 ^ 31) : ix (nI j) = j := nI_clamp h
theorem inb_of {e : Int32} {n : Nat} {m : Int32} (hm : m.toInt = n) (h1 : ¬ e < 0) (h2 : ¬ m ≤ e) : inb e n := by
  intro h
  rcases h with h | h
  · exact h1 h
  · apply h2
    rw [Int32.le_iff_toInt_le, hm]
    have h3 : e.toNatClampNeg = e.toInt.toNat := rfl
    have h4 : (0 : Int) ≤ e.toInt := by
      have := Int32.le_iff_toInt_le.mp (Int32.not_lt.mp h1)
      simpa using this
    omega
theorem inb64 {e : Int32} (h1 : ¬ e < 0) (h2 : ¬ 64 ≤ e) : inb e 64 := inb_of rfl h1 h2
theorem inb60 {e : Int32} (h1 : ¬ e < 0) (h2 : ¬ 60 ≤ e) : inb e 60 := inb_of rfl h1 h2
theorem inb3 {e : Int32} (h1 : ¬ e < 0) (h2 : ¬ 3 ≤ e) : inb e 3 := inb_of rfl h1 h2
theorem asI_I (x : Int32) : asI (some (mI x)) = some x := rfl
theorem asV_n : asV none = some () := rfl
theorem asR_R (x : Option Nat) : asR (some (mR x)) = some x := rfl
theorem bz_0 : bz 0 = 0 := rfl
theorem bz_1 : bz 1 = 1 := rfl
theorem bz_or (x : Int32) : bz x = 0 ∨ bz x = 1 := by unfold bz; split <;> simp
theorem bz_bz (x : Int32) : bz (bz x) = bz x := by unfold bz; split <;> simp
/-- a truth as 0 or 1 -/
def b1 (p : Prop) [Decidable p] : Int32 := if p then 1 else 0
theorem b1_or (p : Prop) [Decidable p] : b1 p = 0 ∨ b1 p = 1 := by unfold b1; split <;> simp
theorem b1_z (p : Prop) [Decidable p] : b1 p = 0 ↔ ¬ p := by unfold b1; split <;> simp_all
theorem b1_t {p : Prop} [Decidable p] (h : p) : b1 p = 1 := if_pos h
theorem b1_f {p : Prop} [Decidable p] (h : ¬ p) : b1 p = 0 := if_neg h
theorem b1_bz (p : Prop) [Decidable p] : bz (b1 p) = b1 p := by unfold b1; split <;> rfl
/-- a window of N cells at a -/
def vw (N : Nat) (I : MI) (a : Nat) : Fin N → Nat → Int32 := fun k j => I (a + k.val) j
def pt {N : Nat} (I : MI) (a : Nat) (V : Fin N → Nat → Int32) : MI := fun x j => if h : a ≤ x ∧ x - a < N then V ⟨x - a, h.2⟩ j else I x j
def uv {N : Nat} (V : Fin N → Nat → Int32) (k : Fin N) (j : Nat) (v : Int32) : Fin N → Nat → Int32 := fun k' j' => if k' = k ∧ j' = j then v else V k' j'
theorem pt_in {N : Nat} {I : MI} {a : Nat} {V : Fin N → Nat → Int32} (k : Fin N) : pt I a V (a + k.val) = V k := by
  funext j
  unfold pt
  have h : a ≤ a + k.val ∧ a + k.val - a < N := ⟨Nat.le_add_right _ _, by rw [Nat.add_sub_cancel_left]; exact k.isLt⟩
  rw [dif_pos h]
  congr 1
  apply Fin.ext
  show a + k.val - a = k.val
  rw [Nat.add_sub_cancel_left]
theorem pt_0 {N : Nat} {I : MI} {a : Nat} {V : Fin (N + 1) → Nat → Int32} : pt I a V a = V 0 := pt_in (N := N + 1) 0
theorem pt_out {N : Nat} {I : MI} {a x : Nat} {V : Fin N → Nat → Int32} (h : x < a ∨ a + N ≤ x) : pt I a V x = I x := by
  funext j
  unfold pt
  rw [dif_neg (by omega)]
theorem pt_vw {N : Nat} (I : MI) (a : Nat) : pt I a (vw N I a) = I := by
  funext x j
  unfold pt vw
  by_cases h : a ≤ x ∧ x - a < N
  · rw [dif_pos h]
    show I (a + (x - a)) j = I x j
    rw [Nat.add_sub_cancel' h.1]
  · rw [dif_neg h]
theorem vw_pt {N : Nat} (I : MI) (a : Nat) (V : Fin N → Nat → Int32) : vw N (pt I a V) a = V := by
  funext k j
  show pt I a V (a + k.val) j = V k j
  rw [pt_in]
theorem pt_pt {N : Nat} (I : MI) (a : Nat) (V V' : Fin N → Nat → Int32) : pt (pt I a V) a V' = pt I a V' := by
  funext x j
  unfold pt
  by_cases h : a ≤ x ∧ x - a < N
  · rw [dif_pos h, dif_pos h]
  · rw [dif_neg h, dif_neg h, dif_neg h]
theorem pt_comm {N M : Nat} (I : MI) {a b : Nat} (V : Fin N → Nat → Int32) (U : Fin M → Nat → Int32) (h : a + N ≤ b ∨ b + M ≤ a) : pt (pt I a V) b U = pt (pt I b U) a V := by
  funext x j
  unfold pt
  by_cases h1 : a ≤ x ∧ x - a < N
  · rw [dif_pos h1, dif_pos h1, dif_neg (by omega)]
  · rw [dif_neg h1, dif_neg h1]
theorem vw_out {N M : Nat} (I : MI) {a b : Nat} (U : Fin M → Nat → Int32) (h : a + N ≤ b ∨ b + M ≤ a) : vw N (pt I b U) a = vw N I a := by
  funext k j
  show pt I b U (a + k.val) j = I (a + k.val) j
  have := k.isLt
  rw [pt_out (by omega)]
theorem up_pt {N : Nat} (I : MI) (a : Nat) (V : Fin N → Nat → Int32) (k : Fin N) (j : Nat) (v : Int32) : up2 (pt I a V) (a + k.val) j v = pt I a (uv V k j v) := by
  funext x y
  unfold up2
  by_cases hx : x = a + k.val
  · subst hx
    rw [pt_in, pt_in]
    simp [uv]
  · have hn : ¬ (x = a + k.val ∧ y = j) := fun h => hx h.1
    rw [if_neg hn]
    unfold pt
    by_cases h1 : a ≤ x ∧ x - a < N
    · rw [dif_pos h1, dif_pos h1]
      unfold uv
      rw [if_neg]
      intro h2
      have := congrArg Fin.val h2.1
      exact hx (by show x = a + k.val; rw [← this]; show x = a + (x - a); omega)
    · rw [dif_neg h1, dif_neg h1]
theorem up_out {N : Nat} {I : MI} {a x : Nat} {V : Fin N → Nat → Int32} {j : Nat} {v : Int32} (h : x < a ∨ a + N ≤ x) : up2 (pt I a V) x j v = pt (up2 I x j v) a V := by
  funext y z
  unfold up2
  by_cases hy : y = x
  · subst hy
    rw [pt_out h, pt_out h]
  · have h1 : ¬ (y = x ∧ z = j) := fun q => hy q.1
    rw [if_neg h1]
    unfold pt
    by_cases h2 : a ≤ y ∧ y - a < N
    · rw [dif_pos h2, dif_pos h2]
    · rw [dif_neg h2, dif_neg h2]
      exact (if_neg h1).symm
/-- a row of a window up to n by f -/
def cpv {N : Nat} (V : Fin N → Nat → Int32) (k : Fin N) (n : Nat) (f : Nat → Int32) : Fin N → Nat → Int32 := fun k' j => if k' = k ∧ j < n then f j else V k' j
theorem cp_pt {N : Nat} (I : MI) (a : Nat) (V : Fin N → Nat → Int32) (k : Fin N) (n : Nat) (f : Nat → Int32) : (fun x y => if x = a + k.val ∧ y < n then f y else pt I a V x y) = pt I a (cpv V k n f) := by
  funext x y
  by_cases hx : x = a + k.val
  · subst hx
    rw [pt_in, pt_in]
    simp [cpv]
  · rw [if_neg (fun h => hx h.1)]
    unfold pt
    by_cases h1 : a ≤ x ∧ x - a < N
    · rw [dif_pos h1, dif_pos h1]
      unfold cpv
      rw [if_neg]
      intro h2
      have := congrArg Fin.val h2.1
      exact hx (by show x = a + k.val; rw [← this]; show x = a + (x - a); omega)
    · rw [dif_neg h1, dif_neg h1]
theorem ix_lt (x : Int32) : ix x < 2 ^ 31 := by
  show x.toInt.toNat < 2 ^ 31
  have := Int32.toInt_lt x
  omega
theorem uv_s {N : Nat} (V : Fin N → Nat → Int32) (k : Fin N) (j : Nat) (v : Int32) : uv V k j v k j = v := by simp [uv]
theorem uv_n {N : Nat} (V : Fin N → Nat → Int32) (k : Fin N) (j : Nat) (v : Int32) (k' : Fin N) (j' : Nat) (h : ¬ (k' = k ∧ j' = j)) : uv V k j v k' j' = V k' j' := if_neg h
theorem uv_k {N : Nat} (V : Fin N → Nat → Int32) (k : Fin N) (j : Nat) (v : Int32) (k' : Fin N) (h : k' ≠ k) : uv V k j v k' = V k' := by
  funext j'
  exact uv_n _ _ _ _ _ _ (fun q => h q.1)
theorem uv_at {N : Nat} (V : Fin N → Nat → Int32) (k : Fin N) (j : Nat) (v : Int32) (j' : Nat) : uv V k j v k j' = if j' = j then v else V k j' := by simp [uv]

abbrev MemV : Type := Fin 12 → Nat → Int32
abbrev NodV : Type := Fin 6 → Nat → Int32
abbrev RouV : Type := Fin 2 → Nat → Int32
abbrev WalV : Type := Fin 6 → Nat → Int32
theorem p2_1 {I : MI} {a : Nat} {V : Fin 2 → Nat → Int32} : pt I a V (a + 1) = V 1 := pt_in (N := 2) 1
theorem c2_1 {I : MI} {a : Nat} {V : Fin 2 → Nat → Int32} {n : Nat} {f : Nat → Int32} : (fun x y => if x = a + 1 ∧ y < n then f y else pt I a V x y) = pt I a (cpv V 1 n f) := cp_pt (N := 2) I a V 1 n f
theorem u2_1 {I : MI} {a : Nat} {V : Fin 2 → Nat → Int32} {j : Nat} {v : Int32} : up2 (pt I a V) (a + 1) j v = pt I a (uv V 1 j v) := up_pt (N := 2) I a V 1 j v
theorem p2_0 {I : MI} {a : Nat} {V : Fin 2 → Nat → Int32} : pt I a V a = V 0 := pt_in (N := 2) 0
theorem u2_0 {I : MI} {a : Nat} {V : Fin 2 → Nat → Int32} {j : Nat} {v : Int32} : up2 (pt I a V) a j v = pt I a (uv V 0 j v) := up_pt (N := 2) I a V 0 j v
theorem p6_1 {I : MI} {a : Nat} {V : Fin 6 → Nat → Int32} : pt I a V (a + 1) = V 1 := pt_in (N := 6) 1
theorem c6_1 {I : MI} {a : Nat} {V : Fin 6 → Nat → Int32} {n : Nat} {f : Nat → Int32} : (fun x y => if x = a + 1 ∧ y < n then f y else pt I a V x y) = pt I a (cpv V 1 n f) := cp_pt (N := 6) I a V 1 n f
theorem u6_1 {I : MI} {a : Nat} {V : Fin 6 → Nat → Int32} {j : Nat} {v : Int32} : up2 (pt I a V) (a + 1) j v = pt I a (uv V 1 j v) := up_pt (N := 6) I a V 1 j v
theorem p6_2 {I : MI} {a : Nat} {V : Fin 6 → Nat → Int32} : pt I a V (a + 2) = V 2 := pt_in (N := 6) 2
theorem c6_2 {I : MI} {a : Nat} {V : Fin 6 → Nat → Int32} {n : Nat} {f : Nat → Int32} : (fun x y => if x = a + 2 ∧ y < n then f y else pt I a V x y) = pt I a (cpv V 2 n f) := cp_pt (N := 6) I a V 2 n f
theorem u6_2 {I : MI} {a : Nat} {V : Fin 6 → Nat → Int32} {j : Nat} {v : Int32} : up2 (pt I a V) (a + 2) j v = pt I a (uv V 2 j v) := up_pt (N := 6) I a V 2 j v
theorem p6_3 {I : MI} {a : Nat} {V : Fin 6 → Nat → Int32} : pt I a V (a + 3) = V 3 := pt_in (N := 6) 3
theorem c6_3 {I : MI} {a : Nat} {V : Fin 6 → Nat → Int32} {n : Nat} {f : Nat → Int32} : (fun x y => if x = a + 3 ∧ y < n then f y else pt I a V x y) = pt I a (cpv V 3 n f) := cp_pt (N := 6) I a V 3 n f
theorem u6_3 {I : MI} {a : Nat} {V : Fin 6 → Nat → Int32} {j : Nat} {v : Int32} : up2 (pt I a V) (a + 3) j v = pt I a (uv V 3 j v) := up_pt (N := 6) I a V 3 j v
theorem p6_4 {I : MI} {a : Nat} {V : Fin 6 → Nat → Int32} : pt I a V (a + 4) = V 4 := pt_in (N := 6) 4
theorem c6_4 {I : MI} {a : Nat} {V : Fin 6 → Nat → Int32} {n : Nat} {f : Nat → Int32} : (fun x y => if x = a + 4 ∧ y < n then f y else pt I a V x y) = pt I a (cpv V 4 n f) := cp_pt (N := 6) I a V 4 n f
theorem u6_4 {I : MI} {a : Nat} {V : Fin 6 → Nat → Int32} {j : Nat} {v : Int32} : up2 (pt I a V) (a + 4) j v = pt I a (uv V 4 j v) := up_pt (N := 6) I a V 4 j v
theorem p6_5 {I : MI} {a : Nat} {V : Fin 6 → Nat → Int32} : pt I a V (a + 5) = V 5 := pt_in (N := 6) 5
theorem c6_5 {I : MI} {a : Nat} {V : Fin 6 → Nat → Int32} {n : Nat} {f : Nat → Int32} : (fun x y => if x = a + 5 ∧ y < n then f y else pt I a V x y) = pt I a (cpv V 5 n f) := cp_pt (N := 6) I a V 5 n f
theorem u6_5 {I : MI} {a : Nat} {V : Fin 6 → Nat → Int32} {j : Nat} {v : Int32} : up2 (pt I a V) (a + 5) j v = pt I a (uv V 5 j v) := up_pt (N := 6) I a V 5 j v
theorem p6_0 {I : MI} {a : Nat} {V : Fin 6 → Nat → Int32} : pt I a V a = V 0 := pt_in (N := 6) 0
theorem u6_0 {I : MI} {a : Nat} {V : Fin 6 → Nat → Int32} {j : Nat} {v : Int32} : up2 (pt I a V) a j v = pt I a (uv V 0 j v) := up_pt (N := 6) I a V 0 j v
theorem p12_1 {I : MI} {a : Nat} {V : Fin 12 → Nat → Int32} : pt I a V (a + 1) = V 1 := pt_in (N := 12) 1
theorem c12_1 {I : MI} {a : Nat} {V : Fin 12 → Nat → Int32} {n : Nat} {f : Nat → Int32} : (fun x y => if x = a + 1 ∧ y < n then f y else pt I a V x y) = pt I a (cpv V 1 n f) := cp_pt (N := 12) I a V 1 n f
theorem u12_1 {I : MI} {a : Nat} {V : Fin 12 → Nat → Int32} {j : Nat} {v : Int32} : up2 (pt I a V) (a + 1) j v = pt I a (uv V 1 j v) := up_pt (N := 12) I a V 1 j v
theorem p12_2 {I : MI} {a : Nat} {V : Fin 12 → Nat → Int32} : pt I a V (a + 2) = V 2 := pt_in (N := 12) 2
theorem c12_2 {I : MI} {a : Nat} {V : Fin 12 → Nat → Int32} {n : Nat} {f : Nat → Int32} : (fun x y => if x = a + 2 ∧ y < n then f y else pt I a V x y) = pt I a (cpv V 2 n f) := cp_pt (N := 12) I a V 2 n f
theorem u12_2 {I : MI} {a : Nat} {V : Fin 12 → Nat → Int32} {j : Nat} {v : Int32} : up2 (pt I a V) (a + 2) j v = pt I a (uv V 2 j v) := up_pt (N := 12) I a V 2 j v
theorem p12_3 {I : MI} {a : Nat} {V : Fin 12 → Nat → Int32} : pt I a V (a + 3) = V 3 := pt_in (N := 12) 3
theorem c12_3 {I : MI} {a : Nat} {V : Fin 12 → Nat → Int32} {n : Nat} {f : Nat → Int32} : (fun x y => if x = a + 3 ∧ y < n then f y else pt I a V x y) = pt I a (cpv V 3 n f) := cp_pt (N := 12) I a V 3 n f
theorem u12_3 {I : MI} {a : Nat} {V : Fin 12 → Nat → Int32} {j : Nat} {v : Int32} : up2 (pt I a V) (a + 3) j v = pt I a (uv V 3 j v) := up_pt (N := 12) I a V 3 j v
theorem p12_4 {I : MI} {a : Nat} {V : Fin 12 → Nat → Int32} : pt I a V (a + 4) = V 4 := pt_in (N := 12) 4
theorem c12_4 {I : MI} {a : Nat} {V : Fin 12 → Nat → Int32} {n : Nat} {f : Nat → Int32} : (fun x y => if x = a + 4 ∧ y < n then f y else pt I a V x y) = pt I a (cpv V 4 n f) := cp_pt (N := 12) I a V 4 n f
theorem u12_4 {I : MI} {a : Nat} {V : Fin 12 → Nat → Int32} {j : Nat} {v : Int32} : up2 (pt I a V) (a + 4) j v = pt I a (uv V 4 j v) := up_pt (N := 12) I a V 4 j v
theorem p12_5 {I : MI} {a : Nat} {V : Fin 12 → Nat → Int32} : pt I a V (a + 5) = V 5 := pt_in (N := 12) 5
theorem c12_5 {I : MI} {a : Nat} {V : Fin 12 → Nat → Int32} {n : Nat} {f : Nat → Int32} : (fun x y => if x = a + 5 ∧ y < n then f y else pt I a V x y) = pt I a (cpv V 5 n f) := cp_pt (N := 12) I a V 5 n f
theorem u12_5 {I : MI} {a : Nat} {V : Fin 12 → Nat → Int32} {j : Nat} {v : Int32} : up2 (pt I a V) (a + 5) j v = pt I a (uv V 5 j v) := up_pt (N := 12) I a V 5 j v
theorem p12_6 {I : MI} {a : Nat} {V : Fin 12 → Nat → Int32} : pt I a V (a + 6) = V 6 := pt_in (N := 12) 6
theorem c12_6 {I : MI} {a : Nat} {V : Fin 12 → Nat → Int32} {n : Nat} {f : Nat → Int32} : (fun x y => if x = a + 6 ∧ y < n then f y else pt I a V x y) = pt I a (cpv V 6 n f) := cp_pt (N := 12) I a V 6 n f
theorem u12_6 {I : MI} {a : Nat} {V : Fin 12 → Nat → Int32} {j : Nat} {v : Int32} : up2 (pt I a V) (a + 6) j v = pt I a (uv V 6 j v) := up_pt (N := 12) I a V 6 j v
theorem p12_7 {I : MI} {a : Nat} {V : Fin 12 → Nat → Int32} : pt I a V (a + 7) = V 7 := pt_in (N := 12) 7
theorem c12_7 {I : MI} {a : Nat} {V : Fin 12 → Nat → Int32} {n : Nat} {f : Nat → Int32} : (fun x y => if x = a + 7 ∧ y < n then f y else pt I a V x y) = pt I a (cpv V 7 n f) := cp_pt (N := 12) I a V 7 n f
theorem u12_7 {I : MI} {a : Nat} {V : Fin 12 → Nat → Int32} {j : Nat} {v : Int32} : up2 (pt I a V) (a + 7) j v = pt I a (uv V 7 j v) := up_pt (N := 12) I a V 7 j v
theorem p12_8 {I : MI} {a : Nat} {V : Fin 12 → Nat → Int32} : pt I a V (a + 8) = V 8 := pt_in (N := 12) 8
theorem c12_8 {I : MI} {a : Nat} {V : Fin 12 → Nat → Int32} {n : Nat} {f : Nat → Int32} : (fun x y => if x = a + 8 ∧ y < n then f y else pt I a V x y) = pt I a (cpv V 8 n f) := cp_pt (N := 12) I a V 8 n f
theorem u12_8 {I : MI} {a : Nat} {V : Fin 12 → Nat → Int32} {j : Nat} {v : Int32} : up2 (pt I a V) (a + 8) j v = pt I a (uv V 8 j v) := up_pt (N := 12) I a V 8 j v
theorem p12_9 {I : MI} {a : Nat} {V : Fin 12 → Nat → Int32} : pt I a V (a + 9) = V 9 := pt_in (N := 12) 9
theorem c12_9 {I : MI} {a : Nat} {V : Fin 12 → Nat → Int32} {n : Nat} {f : Nat → Int32} : (fun x y => if x = a + 9 ∧ y < n then f y else pt I a V x y) = pt I a (cpv V 9 n f) := cp_pt (N := 12) I a V 9 n f
theorem u12_9 {I : MI} {a : Nat} {V : Fin 12 → Nat → Int32} {j : Nat} {v : Int32} : up2 (pt I a V) (a + 9) j v = pt I a (uv V 9 j v) := up_pt (N := 12) I a V 9 j v
theorem p12_10 {I : MI} {a : Nat} {V : Fin 12 → Nat → Int32} : pt I a V (a + 10) = V 10 := pt_in (N := 12) 10
theorem c12_10 {I : MI} {a : Nat} {V : Fin 12 → Nat → Int32} {n : Nat} {f : Nat → Int32} : (fun x y => if x = a + 10 ∧ y < n then f y else pt I a V x y) = pt I a (cpv V 10 n f) := cp_pt (N := 12) I a V 10 n f
theorem u12_10 {I : MI} {a : Nat} {V : Fin 12 → Nat → Int32} {j : Nat} {v : Int32} : up2 (pt I a V) (a + 10) j v = pt I a (uv V 10 j v) := up_pt (N := 12) I a V 10 j v
theorem p12_11 {I : MI} {a : Nat} {V : Fin 12 → Nat → Int32} : pt I a V (a + 11) = V 11 := pt_in (N := 12) 11
theorem c12_11 {I : MI} {a : Nat} {V : Fin 12 → Nat → Int32} {n : Nat} {f : Nat → Int32} : (fun x y => if x = a + 11 ∧ y < n then f y else pt I a V x y) = pt I a (cpv V 11 n f) := cp_pt (N := 12) I a V 11 n f
theorem u12_11 {I : MI} {a : Nat} {V : Fin 12 → Nat → Int32} {j : Nat} {v : Int32} : up2 (pt I a V) (a + 11) j v = pt I a (uv V 11 j v) := up_pt (N := 12) I a V 11 j v
theorem p12_0 {I : MI} {a : Nat} {V : Fin 12 → Nat → Int32} : pt I a V a = V 0 := pt_in (N := 12) 0
theorem u12_0 {I : MI} {a : Nat} {V : Fin 12 → Nat → Int32} {j : Nat} {v : Int32} : up2 (pt I a V) a j v = pt I a (uv V 0 j v) := up_pt (N := 12) I a V 0 j v
/-- a loop that goes on: F k a is the walk at the k-th turn with the state a -/
def itr {α : Type} (f : Nat → α → α) : Nat → Nat → α → α
  | _, 0, a => a
  | k, n + 1, a => itr f (k + 1) n (f k a)
theorem loop_go {α β : Type} (F : Nat → α → β) (f : Nat → α → α) (N : Nat) (hs : ∀ k a, k < N → F k a = F (k + 1) (f k a)) : ∀ (n k : Nat) (a : α), k + n ≤ N → F k a = F (k + n) (itr f k n a)
  | 0, k, a, _ => rfl
  | n + 1, k, a, h => by
    rw [hs k a (by omega), loop_go F f N hs n (k + 1) (f k a) (by omega), show k + 1 + n = k + (n + 1) by omega]
    rfl
theorem loop_all {α β : Type} (F : Nat → α → β) (f : Nat → α → α) (N : Nat) (a : α) (hs : ∀ k a, k < N → F k a = F (k + 1) (f k a)) : F 0 a = F N (itr f 0 N a) := by
  have := loop_go F f N hs N 0 a (by omega)
  rwa [Nat.zero_add] at this
/-- the first place, from k on, of n -/
def fst? (P : Nat → Bool) : Nat → Nat → Option Nat
  | _, 0 => none
  | k, n + 1 => if P k = true then some k else fst? P (k + 1) n
theorem loop_find {β : Type} (F : Nat → β) (P : Nat → Bool) (R : Nat → β) (N : Nat) (hs : ∀ k, k < N → F k = if P k = true then R k else F (k + 1)) : ∀ (n k : Nat), k + n = N → F k = match fst? P k n with
    | some j => R j
    | none => F N
  | 0, k, h => by
    have : k = N := by omega
    subst this
    rfl
  | n + 1, k, h => by
    rw [hs k (by omega)]
    unfold fst?
    by_cases hp : P k = true
    · rw [if_pos hp, if_pos hp]
    · rw [if_neg hp, if_neg hp]
      exact loop_find F P R N hs n (k + 1) (by omega)
theorem fst_some {P : Nat → Bool} : ∀ {n k j : Nat}, fst? P k n = some j → k ≤ j ∧ j < k + n ∧ P j = true ∧ ∀ i, k ≤ i → i < j → P i = false
  | 0, k, j, h => by cases h
  | n + 1, k, j, h => by
    unfold fst? at h
    by_cases hp : P k = true
    · rw [if_pos hp] at h
      cases h
      exact ⟨Nat.le_refl _, by omega, hp, fun i h1 h2 => by omega⟩
    · rw [if_neg hp] at h
      obtain ⟨h1, h2, h3, h4⟩ := fst_some h
      refine ⟨by omega, by omega, h3, fun i h5 h6 => ?_⟩
      by_cases e : i = k
      · subst e; simpa using hp
      · exact h4 i (by omega) h6
theorem fst_none {P : Nat → Bool} : ∀ {n k : Nat}, fst? P k n = none → ∀ i, k ≤ i → i < k + n → P i = false
  | 0, k, h, i, h1, h2 => by omega
  | n + 1, k, h, i, h1, h2 => by
    unfold fst? at h
    by_cases hp : P k = true
    · rw [if_pos hp] at h; cases h
    · rw [if_neg hp] at h
      by_cases e : i = k
      · subst e; simpa using hp
      · exact fst_none h i (by omega) (by omega)
theorem fst_is {P : Nat → Bool} : ∀ {n k j : Nat}, k ≤ j → j < k + n → P j = true → (∀ i, k ≤ i → i < j → P i = false) → fst? P k n = some j
  | 0, k, j, h1, h2, _, _ => by omega
  | n + 1, k, j, h1, h2, h3, h4 => by
    unfold fst?
    by_cases e : k = j
    · subst e; rw [if_pos h3]
    · rw [if_neg (by rw [h4 k (Nat.le_refl _) (by omega)]; simp)]
      exact fst_is (by omega) (by omega) h3 (fun i a b => h4 i (by omega) b)
theorem fst_no {P : Nat → Bool} : ∀ {n k : Nat}, (∀ i, k ≤ i → i < k + n → P i = false) → fst? P k n = none
  | 0, k, _ => rfl
  | n + 1, k, h => by
    unfold fst?
    rw [if_neg (by rw [h k (Nat.le_refl _) (by omega)]; simp)]
    exact fst_no (fun i a b => h i (by omega) (by omega))
theorem fst_cong {P P' : Nat → Bool} : ∀ {n k : Nat}, (∀ i, k ≤ i → i < k + n → P i = P' i) → fst? P k n = fst? P' k n
  | 0, k, _ => rfl
  | n + 1, k, h => by
    unfold fst?
    rw [h k (Nat.le_refl _) (by omega), fst_cong (fun i a b => h i (by omega) (by omega))]
/-- an answer that is a place, or none -/
def oI (o : Option Nat) : Int32 := match o with
  | none => -1
  | some k => nI k
/-- how many of n, from k on -/
def cnt (P : Nat → Bool) : Nat → Nat → Nat
  | _, 0 => 0
  | k, n + 1 => (if P k = true then 1 else 0) + cnt P (k + 1) n
theorem cnt_le (P : Nat → Bool) : ∀ n k, cnt P k n ≤ n
  | 0, k => Nat.le_refl _
  | n + 1, k => by
    unfold cnt
    have := cnt_le P n (k + 1)
    split <;> omega
theorem cnt_cong {P P' : Nat → Bool} : ∀ {n k : Nat}, (∀ i, k ≤ i → i < k + n → P i = P' i) → cnt P k n = cnt P' k n
  | 0, k, _ => rfl
  | n + 1, k, h => by
    unfold cnt
    rw [h k (Nat.le_refl _) (by omega), cnt_cong (fun i a b => h i (by omega) (by omega))]
/-- a counting loop -/
theorem loop_cnt {β : Type} (F : Nat → Nat → β) (P : Nat → Bool) (N : Nat) (hs : ∀ k c, k < N → F k c = F (k + 1) (c + if P k = true then 1 else 0)) : ∀ (n k c : Nat), k + n = N → F k c = F N (c + cnt P k n)
  | 0, k, c, h => by
    have : k = N := by omega
    subst this
    rfl
  | n + 1, k, c, h => by
    have e : cnt P k (n + 1) = (if P k = true then 1 else 0) + cnt P (k + 1) n := rfl
    rw [hs k c (by omega), loop_cnt F P N hs n (k + 1) _ (by omega), e, Nat.add_assoc]
end
section
/-! Layouts: where an object's rows lie. -/
def NodL (J : MJ) (n : Nat) : Prop := (jS J n).1 = 2 ∧ jR J n 0 = some (n + 1) ∧ jR J n 1 = some (n + 2) ∧ jR J n 2 = some (n + 3) ∧ jR J n 3 = some (n + 4) ∧ jR J n 4 = some (n + 5) ∧ jS J (n + 1) = (11, 60) ∧ jS J (n + 2) = (11, 60) ∧ jS J (n + 3) = (11, 60) ∧ jS J (n + 4) = (11, 60) ∧ jS J (n + 5) = (11, 3)
theorem NodL.k {J : MJ} {n : Nat} (h : NodL J n) : (jS J n).1 = 2 := h.1
theorem NodL.r1 {J : MJ} {n : Nat} (h : NodL J n) : jR J n 0 = some (n + 1) := h.2.1
theorem NodL.r2 {J : MJ} {n : Nat} (h : NodL J n) : jR J n 1 = some (n + 2) := h.2.2.1
theorem NodL.r3 {J : MJ} {n : Nat} (h : NodL J n) : jR J n 2 = some (n + 3) := h.2.2.2.1
theorem NodL.r4 {J : MJ} {n : Nat} (h : NodL J n) : jR J n 3 = some (n + 4) := h.2.2.2.2.1
theorem NodL.r5 {J : MJ} {n : Nat} (h : NodL J n) : jR J n 4 = some (n + 5) := h.2.2.2.2.2.1
theorem NodL.s1 {J : MJ} {n : Nat} (h : NodL J n) : jS J (n + 1) = (11, 60) := h.2.2.2.2.2.2.1
theorem NodL.s2 {J : MJ} {n : Nat} (h : NodL J n) : jS J (n + 2) = (11, 60) := h.2.2.2.2.2.2.2.1
theorem NodL.s3 {J : MJ} {n : Nat} (h : NodL J n) : jS J (n + 3) = (11, 60) := h.2.2.2.2.2.2.2.2.1
theorem NodL.s4 {J : MJ} {n : Nat} (h : NodL J n) : jS J (n + 4) = (11, 60) := h.2.2.2.2.2.2.2.2.2.1
theorem NodL.s5 {J : MJ} {n : Nat} (h : NodL J n) : jS J (n + 5) = (11, 3) := h.2.2.2.2.2.2.2.2.2.2
def MemL (J : MJ) (m n : Nat) : Prop := (jS J m).1 = 1 ∧ jR J m 0 = some n ∧ jR J m 1 = some (m + 1) ∧ jR J m 2 = some (m + 2) ∧ jR J m 3 = some (m + 3) ∧ jR J m 4 = some (m + 4) ∧ jR J m 5 = some (m + 5) ∧ jR J m 6 = some (m + 6) ∧ jR J m 7 = some (m + 7) ∧ jR J m 8 = some (m + 8) ∧ jR J m 9 = some (m + 9) ∧ jR J m 10 = some (m + 10) ∧ jR J m 15 = some (m + 11) ∧ jS J (m + 1) = (11, 64) ∧ jS J (m + 2) = (11, 64) ∧ jS J (m + 3) = (11, 64) ∧ jS J (m + 4) = (11, 64) ∧ jS J (m + 5) = (11, 64) ∧ jS J (m + 6) = (11, 64) ∧ jS J (m + 7) = (11, 64) ∧ jS J (m + 8) = (11, 64) ∧ jS J (m + 9) = (11, 3) ∧ jS J (m + 10) = (11, 3) ∧ jS J (m + 11) = (11, 2)
theorem MemL.k {J : MJ} {m n : Nat} (h : MemL J m n) : (jS J m).1 = 1 := h.1
theorem MemL.r0 {J : MJ} {m n : Nat} (h : MemL J m n) : jR J m 0 = some n := h.2.1
theorem MemL.r1 {J : MJ} {m n : Nat} (h : MemL J m n) : jR J m 1 = some (m + 1) := h.2.2.1
theorem MemL.r2 {J : MJ} {m n : Nat} (h : MemL J m n) : jR J m 2 = some (m + 2) := h.2.2.2.1
theorem MemL.r3 {J : MJ} {m n : Nat} (h : MemL J m n) : jR J m 3 = some (m + 3) := h.2.2.2.2.1
theorem MemL.r4 {J : MJ} {m n : Nat} (h : MemL J m n) : jR J m 4 = some (m + 4) := h.2.2.2.2.2.1
theorem MemL.r5 {J : MJ} {m n : Nat} (h : MemL J m n) : jR J m 5 = some (m + 5) := h.2.2.2.2.2.2.1
theorem MemL.r6 {J : MJ} {m n : Nat} (h : MemL J m n) : jR J m 6 = some (m + 6) := h.2.2.2.2.2.2.2.1
theorem MemL.r7 {J : MJ} {m n : Nat} (h : MemL J m n) : jR J m 7 = some (m + 7) := h.2.2.2.2.2.2.2.2.1
theorem MemL.r8 {J : MJ} {m n : Nat} (h : MemL J m n) : jR J m 8 = some (m + 8) := h.2.2.2.2.2.2.2.2.2.1
theorem MemL.r9 {J : MJ} {m n : Nat} (h : MemL J m n) : jR J m 9 = some (m + 9) := h.2.2.2.2.2.2.2.2.2.2.1
theorem MemL.r10 {J : MJ} {m n : Nat} (h : MemL J m n) : jR J m 10 = some (m + 10) := h.2.2.2.2.2.2.2.2.2.2.2.1
theorem MemL.r11 {J : MJ} {m n : Nat} (h : MemL J m n) : jR J m 15 = some (m + 11) := h.2.2.2.2.2.2.2.2.2.2.2.2.1
theorem MemL.s1 {J : MJ} {m n : Nat} (h : MemL J m n) : jS J (m + 1) = (11, 64) := h.2.2.2.2.2.2.2.2.2.2.2.2.2.1
theorem MemL.s2 {J : MJ} {m n : Nat} (h : MemL J m n) : jS J (m + 2) = (11, 64) := h.2.2.2.2.2.2.2.2.2.2.2.2.2.2.1
theorem MemL.s3 {J : MJ} {m n : Nat} (h : MemL J m n) : jS J (m + 3) = (11, 64) := h.2.2.2.2.2.2.2.2.2.2.2.2.2.2.2.1
theorem MemL.s4 {J : MJ} {m n : Nat} (h : MemL J m n) : jS J (m + 4) = (11, 64) := h.2.2.2.2.2.2.2.2.2.2.2.2.2.2.2.2.1
theorem MemL.s5 {J : MJ} {m n : Nat} (h : MemL J m n) : jS J (m + 5) = (11, 64) := h.2.2.2.2.2.2.2.2.2.2.2.2.2.2.2.2.2.1
theorem MemL.s6 {J : MJ} {m n : Nat} (h : MemL J m n) : jS J (m + 6) = (11, 64) := h.2.2.2.2.2.2.2.2.2.2.2.2.2.2.2.2.2.2.1
theorem MemL.s7 {J : MJ} {m n : Nat} (h : MemL J m n) : jS J (m + 7) = (11, 64) := h.2.2.2.2.2.2.2.2.2.2.2.2.2.2.2.2.2.2.2.1
theorem MemL.s8 {J : MJ} {m n : Nat} (h : MemL J m n) : jS J (m + 8) = (11, 64) := h.2.2.2.2.2.2.2.2.2.2.2.2.2.2.2.2.2.2.2.2.1
theorem MemL.s9 {J : MJ} {m n : Nat} (h : MemL J m n) : jS J (m + 9) = (11, 3) := h.2.2.2.2.2.2.2.2.2.2.2.2.2.2.2.2.2.2.2.2.2.1
theorem MemL.s10 {J : MJ} {m n : Nat} (h : MemL J m n) : jS J (m + 10) = (11, 3) := h.2.2.2.2.2.2.2.2.2.2.2.2.2.2.2.2.2.2.2.2.2.2.1
theorem MemL.s11 {J : MJ} {m n : Nat} (h : MemL J m n) : jS J (m + 11) = (11, 2) := h.2.2.2.2.2.2.2.2.2.2.2.2.2.2.2.2.2.2.2.2.2.2.2
def RouL (J : MJ) (r L : Nat) : Prop := (jS J r).1 = 4 ∧ jR J r 0 = some (r + 1) ∧ jS J (r + 1) = (11, L) ∧ L < 1000
theorem RouL.k {J : MJ} {r L : Nat} (h : RouL J r L) : (jS J r).1 = 4 := h.1
theorem RouL.r1 {J : MJ} {r L : Nat} (h : RouL J r L) : jR J r 0 = some (r + 1) := h.2.1
theorem RouL.s1 {J : MJ} {r L : Nat} (h : RouL J r L) : jS J (r + 1) = (11, L) := h.2.2.1
theorem RouL.b {J : MJ} {r L : Nat} (h : RouL J r L) : L < 1000 := h.2.2.2
def TapL (J : MJ) (t : Nat) : Prop := (jS J t).1 = 5 ∧ jR J t 0 = some (t + 1) ∧ jS J (t + 1) = (11, 400)
theorem TapL.k {J : MJ} {t : Nat} (h : TapL J t) : (jS J t).1 = 5 := h.1
theorem TapL.r1 {J : MJ} {t : Nat} (h : TapL J t) : jR J t 0 = some (t + 1) := h.2.1
theorem TapL.s1 {J : MJ} {t : Nat} (h : TapL J t) : jS J (t + 1) = (11, 400) := h.2.2
end

/-! Pure pictures: windows of the heap's ints, the heap's other maps as they lie. -/
abbrev MJ : Type := (Nat → Nat → Int64) × (Nat → Nat → Option Nat) × (Nat → Nat × Nat) × Nat × Nat
abbrev MI : Type := Nat → Nat → Int32
abbrev jR (J : MJ) : Nat → Nat → Option Nat := J.2.1
abbrev jS (J : MJ) : Nat → Nat × Nat := J.2.2.1
theorem fI_ok {I : MI} {J : MJ} {c a : Nat} (k : Nat) (h : (jS J a).1 = c) : fI (I, J) c a k = some (I a k) := if_pos h
theorem fZ_ok {I : MI} {J : MJ} {c a : Nat} (k : Nat) (h : (jS J a).1 = c) : fZ (I, J) c a k = some (bz (I a k)) := if_pos h
theorem fL_ok {I : MI} {J : MJ} {c a : Nat} (k : Nat) (h : (jS J a).1 = c) : fL (I, J) c a k = some (J.1 a k) := if_pos h
theorem fR_ok {I : MI} {J : MJ} {c a : Nat} (k : Nat) (h : (jS J a).1 = c) : fR (I, J) c a k = some (jR J a k) := if_pos h
theorem wI_ok {I : MI} {J : MJ} {c a : Nat} (k : Nat) (v : Int32) (h : (jS J a).1 = c) : wI (I, J) c a k v = some (up2 I a k v, J) := if_pos h
theorem wZ_ok {I : MI} {J : MJ} {c a : Nat} (k : Nat) (v : Int32) (h : (jS J a).1 = c) (hv : v = 0 ∨ v = 1) : wZ (I, J) c a k v = some (up2 I a k v, J) := if_pos ⟨h, hv⟩
theorem ld_ok {I : MI} {J : MJ} {d a n : Nat} (j : Int32) (h : jS J a = (d, n)) (hj : inb j n) : ld (I, J) d a j = some (I a j.toNatClampNeg) := by
  unfold ld
  rw [if_pos]
  exact ⟨by show (jS J a).1 = d; rw [h], by show inb j (jS J a).2; rw [h]; exact hj⟩
theorem st_ok {I : MI} {J : MJ} {d a n : Nat} (j v : Int32) (h : jS J a = (d, n)) (hj : inb j n) : st (I, J) d a j v = some (up2 I a j.toNatClampNeg v, J) := by
  unfold st
  rw [if_pos]
  exact ⟨by show (jS J a).1 = d; rw [h], by show inb j (jS J a).2; rw [h]; exact hj⟩
theorem ldR_ok {I : MI} {J : MJ} {d a n : Nat} (j : Int32) (h : jS J a = (d, n)) (hd : 13 ≤ d ∧ d ≤ 16) (hj : inb j n) : ldR (I, J) a j = some (jR J a j.toNatClampNeg) := by
  unfold ldR
  rw [if_pos]
  exact ⟨by show 13 ≤ (jS J a).1 ∧ (jS J a).1 ≤ 16; rw [h]; exact hd, by show inb j (jS J a).2; rw [h]; exact hj⟩
theorem aln_ok {I : MI} {J : MJ} {d a n : Nat} (h : jS J a = (d, n)) (hd : 11 ≤ d ∧ d ≤ 16) : aln (I, J) a = some (nI n) := by
  unfold aln
  rw [if_pos]
  · show some (Int32.ofNat (jS J a).2) = _; rw [h]; rfl
  · show 11 ≤ (jS J a).1 ∧ (jS J a).1 ≤ 16; rw [h]; exact hd
theorem cpy_ok {I : MI} {J : MJ} {a b n : Nat} (ha : jS J a = (11, n)) (hb : jS J b = (11, n)) (hn : n < 2 ^ 31) (hab : a ≠ b) (w : Int32) (hw : w = nI n) : cpy (I, J) a 0 b 0 w = some (fun x y => if x = b ∧ y < n then I a y else I x y, J) := by
  subst hw
  unfold cpy
  have e0 : Int32.toNatClampNeg 0 = 0 := rfl
  have en : (nI n).toNatClampNeg = n := nI_clamp hn
  have ka : kd (I, J) a = 11 := by show (jS J a).1 = 11; rw [ha]
  have kb : kd (I, J) b = 11 := by show (jS J b).1 = 11; rw [hb]
  have la : ln (I, J) a = n := by show (jS J a).2 = n; rw [ha]
  have lb : ln (I, J) b = n := by show (jS J b).2 = n; rw [hb]
  rw [if_pos ⟨ka, kb, by decide, by decide, nI_pos hn, by rw [e0, en, la]; omega, by rw [e0, en, lb]; omega, hab⟩]
  rw [e0, en]
  congr 2
  funext x y
  by_cases h : x = b ∧ y < n
  · rw [if_pos h, if_pos ⟨h.1, Nat.zero_le _, by omega⟩]
    show I a (0 + (y - 0)) = I a y
    rw [Nat.zero_add, Nat.sub_zero]
  · rw [if_neg h, if_neg (fun q => h ⟨q.1, by have := q.2.2; omega⟩)]
abbrev ix (e : Int32) : Nat := e.toNatClampNeg
theorem inb_nI {j n : Nat} (h : j < n) (hn : n < 2 ^ 31) : inb (nI j) n := vp_in_nI h hn
theorem ix_nI {j : Nat} (h : j < 2 ^ 31) : ix (nI j) = j := nI_clamp h
theorem inb_of {e : Int32} {n : Nat} {m : Int32} (hm : m.toInt = n) (h1 : ¬ e < 0) (h2 : ¬ m ≤ e) : inb e n := by
  intro h
  rcases h with h | h
  · exact h1 h
  · apply h2
    rw [Int32.le_iff_toInt_le, hm]
    have h3 : e.toNatClampNeg = e.toInt.toNat := rfl
    have h4 : (0 : Int) ≤ e.toInt := by
      have := Int32.le_iff_toInt_le.mp (Int32.not_lt.mp h1)
      simpa using this
    omega
theorem inb64 {e : Int32} (h1 : ¬ e < 0) (h2 : ¬ 64 ≤ e) : inb e 64 := inb_of rfl h1 h2
theorem inb60 {e : Int32} (h1 : ¬ e < 0) (h2 : ¬ 60 ≤ e) : inb e 60 := inb_of rfl h1 h2
theorem inb3 {e : Int32} (h1 : ¬ e < 0) (h2 : ¬ 3 ≤ e) : inb e 3 := inb_of rfl h1 h2
theorem asI_I (x : Int32) : asI (some (mI x)) = some x := rfl
theorem asV_n : asV none = some () := rfl
theorem asR_R (x : Option Nat) : asR (some (mR x)) = some x := rfl
theorem bz_0 : bz 0 = 0 := rfl
theorem bz_1 : bz 1 = 1 := rfl
theorem bz_or (x : Int32) : bz x = 0 ∨ bz x = 1 := by unfold bz; split <;> simp
theorem bz_bz (x : Int32) : bz (bz x) = bz x := by unfold bz; split <;> simp
/-- a truth as 0 or 1 -/
def b1 (p : Prop) [Decidable p] : Int32 := if p then 1 else 0
theorem b1_or (p : Prop) [Decidable p] : b1 p = 0 ∨ b1 p = 1 := by unfold b1; split <;> simp
theorem b1_z (p : Prop) [Decidable p] : b1 p = 0 ↔ ¬ p := by unfold b1; split <;> simp_all
theorem b1_t {p : Prop} [Decidable p] (h : p) : b1 p = 1 := if_pos h
theorem b1_f {p : Prop} [Decidable p] (h : ¬ p) : b1 p = 0 := if_neg h
theorem b1_bz (p : Prop) [Decidable p] : bz (b1 p) = b1 p := by unfold b1; split <;> rfl
/-- a window of N cells at a -/
def vw (N : Nat) (I : MI) (a : Nat) : Fin N → Nat → Int32 := fun k j => I (a + k.val) j
def pt {N : Nat} (I : MI) (a : Nat) (V : Fin N → Nat → Int32) : MI := fun x j => if h : a ≤ x ∧ x - a < N then V ⟨x - a, h.2⟩ j else I x j
def uv {N : Nat} (V : Fin N → Nat → Int32) (k : Fin N) (j : Nat) (v : Int32) : Fin N → Nat → Int32 := fun k' j' => if k' = k ∧ j' = j then v else V k' j'
theorem pt_in {N : Nat} {I : MI} {a : Nat} {V : Fin N → Nat → Int32} (k : Fin N) : pt I a V (a + k.val) = V k := by
  funext j
  unfold pt
  have h : a ≤ a + k.val ∧ a + k.val - a < N := ⟨Nat.le_add_right _ _, by rw [Nat.add_sub_cancel_left]; exact k.isLt⟩
  rw [dif_pos h]
  congr 1
  apply Fin.ext
  show a + k.val - a = k.val
  rw [Nat.add_sub_cancel_left]
theorem pt_0 {N : Nat} {I : MI} {a : Nat} {V : Fin (N + 1) → Nat → Int32} : pt I a V a = V 0 := pt_in (N := N + 1) 0
theorem pt_out {N : Nat} {I : MI} {a x : Nat} {V : Fin N → Nat → Int32} (h : x < a ∨ a + N ≤ x) : pt I a V x = I x := by
  funext j
  unfold pt
  rw [dif_neg (by omega)]
theorem pt_vw {N : Nat} (I : MI) (a : Nat) : pt I a (vw N I a) = I := by
  funext x j
  unfold pt vw
  by_cases h : a ≤ x ∧ x - a < N
  · rw [dif_pos h]
    show I (a + (x - a)) j = I x j
    rw [Nat.add_sub_cancel' h.1]
  · rw [dif_neg h]
theorem vw_pt {N : Nat} (I : MI) (a : Nat) (V : Fin N → Nat → Int32) : vw N (pt I a V) a = V := by
  funext k j
  show pt I a V (a + k.val) j = V k j
  rw [pt_in]
theorem pt_pt {N : Nat} (I : MI) (a : Nat) (V V' : Fin N → Nat → Int32) : pt (pt I a V) a V' = pt I a V' := by
  funext x j
  unfold pt
  by_cases h : a ≤ x ∧ x - a < N
  · rw [dif_pos h, dif_pos h]
  · rw [dif_neg h, dif_neg h, dif_neg h]
theorem pt_comm {N M : Nat} (I : MI) {a b : Nat} (V : Fin N → Nat → Int32) (U : Fin M → Nat → Int32) (h : a + N ≤ b ∨ b + M ≤ a) : pt (pt I a V) b U = pt (pt I b U) a V := by
  funext x j
  unfold pt
  by_cases h1 : a ≤ x ∧ x - a < N
  · rw [dif_pos h1, dif_pos h1, dif_neg (by omega)]
  · rw [dif_neg h1, dif_neg h1]
theorem vw_out {N M : Nat} (I : MI) {a b : Nat} (U : Fin M → Nat → Int32) (h : a + N ≤ b ∨ b + M ≤ a) : vw N (pt I b U) a = vw N I a := by
  funext k j
  show pt I b U (a + k.val) j = I (a + k.val) j
  have := k.isLt
  rw [pt_out (by omega)]
theorem up_pt {N : Nat} (I : MI) (a : Nat) (V : Fin N → Nat → Int32) (k : Fin N) (j : Nat) (v : Int32) : up2 (pt I a V) (a + k.val) j v = pt I a (uv V k j v) := by
  funext x y
  unfold up2
  by_cases hx : x = a + k.val
  · subst hx
    rw [pt_in, pt_in]
    simp [uv]
  · have hn : ¬ (x = a + k.val ∧ y = j) := fun h => hx h.1
    rw [if_neg hn]
    unfold pt
    by_cases h1 : a ≤ x ∧ x - a < N
    · rw [dif_pos h1, dif_pos h1]
      unfold uv
      rw [if_neg]
      intro h2
      have := congrArg Fin.val h2.1
      exact hx (by show x = a + k.val; rw [← this]; show x = a + (x - a); omega)
    · rw [dif_neg h1, dif_neg h1]
theorem up_out {N : Nat} {I : MI} {a x : Nat} {V : Fin N → Nat → Int32} {j : Nat} {v : Int32} (h : x < a ∨ a + N ≤ x) : up2 (pt I a V) x j v = pt (up2 I x j v) a V := by
  funext y z
  unfold up2
  by_cases hy : y = x
  · subst hy
    rw [pt_out h, pt_out h]
  · have h1 : ¬ (y = x ∧ z = j) := fun q => hy q.1
    rw [if_neg h1]
    unfold pt
    by_cases h2 : a ≤ y ∧ y - a < N
    · rw [dif_pos h2, dif_pos h2]
    · rw [dif_neg h2, dif_neg h2]
      exact (if_neg h1).symm
/-- a row of a window up to n by f -/
def cpv {N : Nat} (V : Fin N → Nat → Int32) (k : Fin N) (n : Nat) (f : Nat → Int32) : Fin N → Nat → Int32 := fun k' j => if k' = k ∧ j < n then f j else V k' j
theorem cp_pt {N : Nat} (I : MI) (a : Nat) (V : Fin N → Nat → Int32) (k : Fin N) (n : Nat) (f : Nat → Int32) : (fun x y => if x = a + k.val ∧ y < n then f y else pt I a V x y) = pt I a (cpv V k n f) := by
  funext x y
  by_cases hx : x = a + k.val
  · subst hx
    rw [pt_in, pt_in]
    simp [cpv]
  · rw [if_neg (fun h => hx h.1)]
    unfold pt
    by_cases h1 : a ≤ x ∧ x - a < N
    · rw [dif_pos h1, dif_pos h1]
      unfold cpv
      rw [if_neg]
      intro h2
      have := congrArg Fin.val h2.1
      exact hx (by show x = a + k.val; rw [← this]; show x = a + (x - a); omega)
    · rw [dif_neg h1, dif_neg h1]
theorem ix_lt (x : Int32) : ix x < 2 ^ 31 := by
  show x.toInt.toNat < 2 ^ 31
  have := Int32.toInt_lt x
  omega
theorem uv_s {N : Nat} (V : Fin N → Nat → Int32) (k : Fin N) (j : Nat) (v : Int32) : uv V k j v k j = v := by simp [uv]
theorem uv_n {N : Nat} (V : Fin N → Nat → Int32) (k : Fin N) (j : Nat) (v : Int32) (k' : Fin N) (j' : Nat) (h : ¬ (k' = k ∧ j' = j)) : uv V k j v k' j' = V k' j' := if_neg h
theorem uv_k {N : Nat} (V : Fin N → Nat → Int32) (k : Fin N) (j : Nat) (v : Int32) (k' : Fin N) (h : k' ≠ k) : uv V k j v k' = V k' := by
  funext j'
  exact uv_n _ _ _ _ _ _ (fun q => h q.1)
theorem uv_at {N : Nat} (V : Fin N → Nat → Int32) (k : Fin N) (j : Nat) (v : Int32) (j' : Nat) : uv V k j v k j' = if j' = j then v else V k j' := by simp [uv]

abbrev MemV : Type := Fin 12 → Nat → Int32
abbrev NodV : Type := Fin 6 → Nat → Int32
abbrev RouV : Type := Fin 2 → Nat → Int32
abbrev WalV : Type := Fin 6 → Nat → Int32
theorem p2_1 {I : MI} {a : Nat} {V : Fin 2 → Nat → Int32} : pt I a V (a + 1) = V 1 := pt_in (N := 2) 1
theorem c2_1 {I : MI} {a : Nat} {V : Fin 2 → Nat → Int32} {n : Nat} {f : Nat → Int32} : (fun x y => if x = a + 1 ∧ y < n then f y else pt I a V x y) = pt I a (cpv V 1 n f) := cp_pt (N := 2) I a V 1 n f
theorem u2_1 {I : MI} {a : Nat} {V : Fin 2 → Nat → Int32} {j : Nat} {v : Int32} : up2 (pt I a V) (a + 1) j v = pt I a (uv V 1 j v) := up_pt (N := 2) I a V 1 j v
theorem p2_0 {I : MI} {a : Nat} {V : Fin 2 → Nat → Int32} : pt I a V a = V 0 := pt_in (N := 2) 0
theorem u2_0 {I : MI} {a : Nat} {V : Fin 2 → Nat → Int32} {j : Nat} {v : Int32} : up2 (pt I a V) a j v = pt I a (uv V 0 j v) := up_pt (N := 2) I a V 0 j v
theorem p6_1 {I : MI} {a : Nat} {V : Fin 6 → Nat → Int32} : pt I a V (a + 1) = V 1 := pt_in (N := 6) 1
theorem c6_1 {I : MI} {a : Nat} {V : Fin 6 → Nat → Int32} {n : Nat} {f : Nat → Int32} : (fun x y => if x = a + 1 ∧ y < n then f y else pt I a V x y) = pt I a (cpv V 1 n f) := cp_pt (N := 6) I a V 1 n f
theorem u6_1 {I : MI} {a : Nat} {V : Fin 6 → Nat → Int32} {j : Nat} {v : Int32} : up2 (pt I a V) (a + 1) j v = pt I a (uv V 1 j v) := up_pt (N := 6) I a V 1 j v
theorem p6_2 {I : MI} {a : Nat} {V : Fin 6 → Nat → Int32} : pt I a V (a + 2) = V 2 := pt_in (N := 6) 2
theorem c6_2 {I : MI} {a : Nat} {V : Fin 6 → Nat → Int32} {n : Nat} {f : Nat → Int32} : (fun x y => if x = a + 2 ∧ y < n then f y else pt I a V x y) = pt I a (cpv V 2 n f) := cp_pt (N := 6) I a V 2 n f
theorem u6_2 {I : MI} {a : Nat} {V : Fin 6 → Nat → Int32} {j : Nat} {v : Int32} : up2 (pt I a V) (a + 2) j v = pt I a (uv V 2 j v) := up_pt (N := 6) I a V 2 j v
theorem p6_3 {I : MI} {a : Nat} {V : Fin 6 → Nat → Int32} : pt I a V (a + 3) = V 3 := pt_in (N := 6) 3
theorem c6_3 {I : MI} {a : Nat} {V : Fin 6 → Nat → Int32} {n : Nat} {f : Nat → Int32} : (fun x y => if x = a + 3 ∧ y < n then f y else pt I a V x y) = pt I a (cpv V 3 n f) := cp_pt (N := 6) I a V 3 n f
theorem u6_3 {I : MI} {a : Nat} {V : Fin 6 → Nat → Int32} {j : Nat} {v : Int32} : up2 (pt I a V) (a + 3) j v = pt I a (uv V 3 j v) := up_pt (N := 6) I a V 3 j v
theorem p6_4 {I : MI} {a : Nat} {V : Fin 6 → Nat → Int32} : pt I a V (a + 4) = V 4 := pt_in (N := 6) 4
theorem c6_4 {I : MI} {a : Nat} {V : Fin 6 → Nat → Int32} {n : Nat} {f : Nat → Int32} : (fun x y => if x = a + 4 ∧ y < n then f y else pt I a V x y) = pt I a (cpv V 4 n f) := cp_pt (N := 6) I a V 4 n f
theorem u6_4 {I : MI} {a : Nat} {V : Fin 6 → Nat → Int32} {j : Nat} {v : Int32} : up2 (pt I a V) (a + 4) j v = pt I a (uv V 4 j v) := up_pt (N := 6) I a V 4 j v
theorem p6_5 {I : MI} {a : Nat} {V : Fin 6 → Nat → Int32} : pt I a V (a + 5) = V 5 := pt_in (N := 6) 5
theorem c6_5 {I : MI} {a : Nat} {V : Fin 6 → Nat → Int32} {n : Nat} {f : Nat → Int32} : (fun x y => if x = a + 5 ∧ y < n then f y else pt I a V x y) = pt I a (cpv V 5 n f) := cp_pt (N := 6) I a V 5 n f
theorem u6_5 {I : MI} {a : Nat} {V : Fin 6 → Nat → Int32} {j : Nat} {v : Int32} : up2 (pt I a V) (a + 5) j v = pt I a (uv V 5 j v) := up_pt (N := 6) I a V 5 j v
theorem p6_0 {I : MI} {a : Nat} {V : Fin 6 → Nat → Int32} : pt I a V a = V 0 := pt_in (N := 6) 0
theorem u6_0 {I : MI} {a : Nat} {V : Fin 6 → Nat → Int32} {j : Nat} {v : Int32} : up2 (pt I a V) a j v = pt I a (uv V 0 j v) := up_pt (N := 6) I a V 0 j v
theorem p12_1 {I : MI} {a : Nat} {V : Fin 12 → Nat → Int32} : pt I a V (a + 1) = V 1 := pt_in (N := 12) 1
theorem c12_1 {I : MI} {a : Nat} {V : Fin 12 → Nat → Int32} {n : Nat} {f : Nat → Int32} : (fun x y => if x = a + 1 ∧ y < n then f y else pt I a V x y) = pt I a (cpv V 1 n f) := cp_pt (N := 12) I a V 1 n f
theorem u12_1 {I : MI} {a : Nat} {V : Fin 12 → Nat → Int32} {j : Nat} {v : Int32} : up2 (pt I a V) (a + 1) j v = pt I a (uv V 1 j v) := up_pt (N := 12) I a V 1 j v
theorem p12_2 {I : MI} {a : Nat} {V : Fin 12 → Nat → Int32} : pt I a V (a + 2) = V 2 := pt_in (N := 12) 2
theorem c12_2 {I : MI} {a : Nat} {V : Fin 12 → Nat → Int32} {n : Nat} {f : Nat → Int32} : (fun x y => if x = a + 2 ∧ y < n then f y else pt I a V x y) = pt I a (cpv V 2 n f) := cp_pt (N := 12) I a V 2 n f
theorem u12_2 {I : MI} {a : Nat} {V : Fin 12 → Nat → Int32} {j : Nat} {v : Int32} : up2 (pt I a V) (a + 2) j v = pt I a (uv V 2 j v) := up_pt (N := 12) I a V 2 j v
theorem p12_3 {I : MI} {a : Nat} {V : Fin 12 → Nat → Int32} : pt I a V (a + 3) = V 3 := pt_in (N := 12) 3
theorem c12_3 {I : MI} {a : Nat} {V : Fin 12 → Nat → Int32} {n : Nat} {f : Nat → Int32} : (fun x y => if x = a + 3 ∧ y < n then f y else pt I a V x y) = pt I a (cpv V 3 n f) := cp_pt (N := 12) I a V 3 n f
theorem u12_3 {I : MI} {a : Nat} {V : Fin 12 → Nat → Int32} {j : Nat} {v : Int32} : up2 (pt I a V) (a + 3) j v = pt I a (uv V 3 j v) := up_pt (N := 12) I a V 3 j v
theorem p12_4 {I : MI} {a : Nat} {V : Fin 12 → Nat → Int32} : pt I a V (a + 4) = V 4 := pt_in (N := 12) 4
theorem c12_4 {I : MI} {a : Nat} {V : Fin 12 → Nat → Int32} {n : Nat} {f : Nat → Int32} : (fun x y => if x = a + 4 ∧ y < n then f y else pt I a V x y) = pt I a (cpv V 4 n f) := cp_pt (N := 12) I a V 4 n f
theorem u12_4 {I : MI} {a : Nat} {V : Fin 12 → Nat → Int32} {j : Nat} {v : Int32} : up2 (pt I a V) (a + 4) j v = pt I a (uv V 4 j v) := up_pt (N := 12) I a V 4 j v
theorem p12_5 {I : MI} {a : Nat} {V : Fin 12 → Nat → Int32} : pt I a V (a + 5) = V 5 := pt_in (N := 12) 5
theorem c12_5 {I : MI} {a : Nat} {V : Fin 12 → Nat → Int32} {n : Nat} {f : Nat → Int32} : (fun x y => if x = a + 5 ∧ y < n then f y else pt I a V x y) = pt I a (cpv V 5 n f) := cp_pt (N := 12) I a V 5 n f
theorem u12_5 {I : MI} {a : Nat} {V : Fin 12 → Nat → Int32} {j : Nat} {v : Int32} : up2 (pt I a V) (a + 5) j v = pt I a (uv V 5 j v) := up_pt (N := 12) I a V 5 j v
theorem p12_6 {I : MI} {a : Nat} {V : Fin 12 → Nat → Int32} : pt I a V (a + 6) = V 6 := pt_in (N := 12) 6
theorem c12_6 {I : MI} {a : Nat} {V : Fin 12 → Nat → Int32} {n : Nat} {f : Nat → Int32} : (fun x y => if x = a + 6 ∧ y < n then f y else pt I a V x y) = pt I a (cpv V 6 n f) := cp_pt (N := 12) I a V 6 n f
theorem u12_6 {I : MI} {a : Nat} {V : Fin 12 → Nat → Int32} {j : Nat} {v : Int32} : up2 (pt I a V) (a + 6) j v = pt I a (uv V 6 j v) := up_pt (N := 12) I a V 6 j v
theorem p12_7 {I : MI} {a : Nat} {V : Fin 12 → Nat → Int32} : pt I a V (a + 7) = V 7 := pt_in (N := 12) 7
theorem c12_7 {I : MI} {a : Nat} {V : Fin 12 → Nat → Int32} {n : Nat} {f : Nat → Int32} : (fun x y => if x = a + 7 ∧ y < n then f y else pt I a V x y) = pt I a (cpv V 7 n f) := cp_pt (N := 12) I a V 7 n f
theorem u12_7 {I : MI} {a : Nat} {V : Fin 12 → Nat → Int32} {j : Nat} {v : Int32} : up2 (pt I a V) (a + 7) j v = pt I a (uv V 7 j v) := up_pt (N := 12) I a V 7 j v
theorem p12_8 {I : MI} {a : Nat} {V : Fin 12 → Nat → Int32} : pt I a V (a + 8) = V 8 := pt_in (N := 12) 8
theorem c12_8 {I : MI} {a : Nat} {V : Fin 12 → Nat → Int32} {n : Nat} {f : Nat → Int32} : (fun x y => if x = a + 8 ∧ y < n then f y else pt I a V x y) = pt I a (cpv V 8 n f) := cp_pt (N := 12) I a V 8 n f
theorem u12_8 {I : MI} {a : Nat} {V : Fin 12 → Nat → Int32} {j : Nat} {v : Int32} : up2 (pt I a V) (a + 8) j v = pt I a (uv V 8 j v) := up_pt (N := 12) I a V 8 j v
theorem p12_9 {I : MI} {a : Nat} {V : Fin 12 → Nat → Int32} : pt I a V (a + 9) = V 9 := pt_in (N := 12) 9
theorem c12_9 {I : MI} {a : Nat} {V : Fin 12 → Nat → Int32} {n : Nat} {f : Nat → Int32} : (fun x y => if x = a + 9 ∧ y < n then f y else pt I a V x y) = pt I a (cpv V 9 n f) := cp_pt (N := 12) I a V 9 n f
theorem u12_9 {I : MI} {a : Nat} {V : Fin 12 → Nat → Int32} {j : Nat} {v : Int32} : up2 (pt I a V) (a + 9) j v = pt I a (uv V 9 j v) := up_pt (N := 12) I a V 9 j v
theorem p12_10 {I : MI} {a : Nat} {V : Fin 12 → Nat → Int32} : pt I a V (a + 10) = V 10 := pt_in (N := 12) 10
theorem c12_10 {I : MI} {a : Nat} {V : Fin 12 → Nat → Int32} {n : Nat} {f : Nat → Int32} : (fun x y => if x = a + 10 ∧ y < n then f y else pt I a V x y) = pt I a (cpv V 10 n f) := cp_pt (N := 12) I a V 10 n f
theorem u12_10 {I : MI} {a : Nat} {V : Fin 12 → Nat → Int32} {j : Nat} {v : Int32} : up2 (pt I a V) (a + 10) j v = pt I a (uv V 10 j v) := up_pt (N := 12) I a V 10 j v
theorem p12_11 {I : MI} {a : Nat} {V : Fin 12 → Nat → Int32} : pt I a V (a + 11) = V 11 := pt_in (N := 12) 11
theorem c12_11 {I : MI} {a : Nat} {V : Fin 12 → Nat → Int32} {n : Nat} {f : Nat → Int32} : (fun x y => if x = a + 11 ∧ y < n then f y else pt I a V x y) = pt I a (cpv V 11 n f) := cp_pt (N := 12) I a V 11 n f
theorem u12_11 {I : MI} {a : Nat} {V : Fin 12 → Nat → Int32} {j : Nat} {v : Int32} : up2 (pt I a V) (a + 11) j v = pt I a (uv V 11 j v) := up_pt (N := 12) I a V 11 j v
theorem p12_0 {I : MI} {a : Nat} {V : Fin 12 → Nat → Int32} : pt I a V a = V 0 := pt_in (N := 12) 0
theorem u12_0 {I : MI} {a : Nat} {V : Fin 12 → Nat → Int32} {j : Nat} {v : Int32} : up2 (pt I a V) a j v = pt I a (uv V 0 j v) := up_pt (N := 12) I a V 0 j v
/-- a loop that goes on: F k a is the walk at the k-th turn with the state a -/
def itr {α : Type} (f : Nat → α → α) : Nat → Nat → α → α
  | _, 0, a => a
  | k, n + 1, a => itr f (k + 1) n (f k a)
theorem loop_go {α β : Type} (F : Nat → α → β) (f : Nat → α → α) (N : Nat) (hs : ∀ k a, k < N → F k a = F (k + 1) (f k a)) : ∀ (n k : Nat) (a : α), k + n ≤ N → F k a = F (k + n) (itr f k n a)
  | 0, k, a, _ => rfl
  | n + 1, k, a, h => by
    rw [hs k a (by omega), loop_go F f N hs n (k + 1) (f k a) (by omega), show k + 1 + n = k + (n + 1) by omega]
    rfl
theorem loop_all {α β : Type} (F : Nat → α → β) (f : Nat → α → α) (N : Nat) (a : α) (hs : ∀ k a, k < N → F k a = F (k + 1) (f k a)) : F 0 a = F N (itr f 0 N a) := by
  have := loop_go F f N hs N 0 a (by omega)
  rwa [Nat.zero_add] at this
/-- the first place, from k on, of n -/
def fst? (P : Nat → Bool) : Nat → Nat → Option Nat
  | _, 0 => none
  | k, n + 1 => if P k = true then some k else fst? P (k + 1) n
theorem loop_find {β : Type} (F : Nat → β) (P : Nat → Bool) (R : Nat → β) (N : Nat) (hs : ∀ k, k < N → F k = if P k = true then R k else F (k + 1)) : ∀ (n k : Nat), k + n = N → F k = match fst? P k n with
    | some j => R j
    | none => F N
  | 0, k, h => by
    have : k = N := by omega
    subst this
    rfl
  | n + 1, k, h => by
    rw [hs k (by omega)]
    unfold fst?
    by_cases hp : P k = true
    · rw [if_pos hp, if_pos hp]
    · rw [if_neg hp, if_neg hp]
      exact loop_find F P R N hs n (k + 1) (by omega)
theorem fst_some {P : Nat → Bool} : ∀ {n k j : Nat}, fst? P k n = some j → k ≤ j ∧ j < k + n ∧ P j = true ∧ ∀ i, k ≤ i → i < j → P i = false
  | 0, k, j, h => by cases h
  | n + 1, k, j, h => by
    unfold fst? at h
    by_cases hp : P k = true
    · rw [if_pos hp] at h
      cases h
      exact ⟨Nat.le_refl _, by omega, hp, fun i h1 h2 => by omega⟩
    · rw [if_neg hp] at h
      obtain ⟨h1, h2, h3, h4⟩ := fst_some h
      refine ⟨by omega, by omega, h3, fun i h5 h6 => ?_⟩
      by_cases e : i = k
      · subst e; simpa using hp
      · exact h4 i (by omega) h6
theorem fst_none {P : Nat → Bool} : ∀ {n k : Nat}, fst? P k n = none → ∀ i, k ≤ i → i < k + n → P i = false
  | 0, k, h, i, h1, h2 => by omega
  | n + 1, k, h, i, h1, h2 => by
    unfold fst? at h
    by_cases hp : P k = true
    · rw [if_pos hp] at h; cases h
    · rw [if_neg hp] at h
      by_cases e : i = k
      · subst e; simpa using hp
      · exact fst_none h i (by omega) (by omega)
theorem fst_is {P : Nat → Bool} : ∀ {n k j : Nat}, k ≤ j → j < k + n → P j = true → (∀ i, k ≤ i → i < j → P i = false) → fst? P k n = some j
  | 0, k, j, h1, h2, _, _ => by omega
  | n + 1, k, j, h1, h2, h3, h4 => by
    unfold fst?
    by_cases e : k = j
    · subst e; rw [if_pos h3]
    · rw [if_neg (by rw [h4 k (Nat.le_refl _) (by omega)]; simp)]
      exact fst_is (by omega) (by omega) h3 (fun i a b => h4 i (by omega) b)
theorem fst_no {P : Nat → Bool} : ∀ {n k : Nat}, (∀ i, k ≤ i → i < k + n → P i = false) → fst? P k n = none
  | 0, k, _ => rfl
  | n + 1, k, h => by
    unfold fst?
    rw [if_neg (by rw [h k (Nat.le_refl _) (by omega)]; simp)]
    exact fst_no (fun i a b => h i (by omega) (by omega))
theorem fst_cong {P P' : Nat → Bool} : ∀ {n k : Nat}, (∀ i, k ≤ i → i < k + n → P i = P' i) → fst? P k n = fst? P' k n
  | 0, k, _ => rfl
  | n + 1, k, h => by
    unfold fst?
    rw [h k (Nat.le_refl _) (by omega), fst_cong (fun i a b => h i (by omega) (by omega))]
/-- an answer that is a place, or none -/
def oI (o : Option Nat) : Int32 := match o with
  | none => -1
  | some k => nI k
/-- how many of n, from k on -/
def cnt (P : Nat → Bool) : Nat → Nat → Nat
  | _, 0 => 0
  | k, n + 1 => (if P k = true then 1 else 0) + cnt P (k + 1) n
theorem cnt_le (P : Nat → Bool) : ∀ n k, cnt P k n ≤ n
  | 0, k => Nat.le_refl _
  | n + 1, k => by
    unfold cnt
    have := cnt_le P n (k + 1)
    split <;> omega
theorem cnt_cong {P P' : Nat → Bool} : ∀ {n k : Nat}, (∀ i, k ≤ i → i < k + n → P i = P' i) → cnt P k n = cnt P' k n
  | 0, k, _ => rfl
  | n + 1, k, h => by
    unfold cnt
    rw [h k (Nat.le_refl _) (by omega), cnt_cong (fun i a b => h i (by omega) (by omega))]
/-- a counting loop -/
theorem loop_cnt {β : Type} (F : Nat → Nat → β) (P : Nat → Bool) (N : Nat) (hs : ∀ k c, k < N → F k c = F (k + 1) (c + if P k = true then 1 else 0)) : ∀ (n k c : Nat), k + n = N → F k c = F N (c + cnt P k n)
  | 0, k, c, h => by
    have : k = N := by omega
    subst this
    rfl
  | n + 1, k, c, h => by
    have e : cnt P k (n + 1) = (if P k = true then 1 else 0) + cnt P (k + 1) n := rfl
    rw [hs k c (by omega), loop_cnt F P N hs n (k + 1) _ (by omega), e, Nat.add_assoc]


/-! The reference's heap as a frame: row 194 (now) is D, row 195 (holders) is G, place 22 of 188 (cur) is c. -/
abbrev RowV : Type := Nat → Int32
def rF (I : MI) (D G : RowV) (c : Int32) : MI := fun a j => if a = 194 then D j else if a = 195 then G j else if a = 188 ∧ j = 22 then c else I a j
def sD (D : RowV) (i : Nat) (v : Int32) : RowV := fun j => if j = i then v else D j
theorem sD_s (D : RowV) (i : Nat) (v : Int32) : sD D i v i = v := if_pos rfl
theorem sD_n (D : RowV) {i j : Nat} (v : Int32) (h : j ≠ i) : sD D i v j = D j := if_neg h
theorem rF_id (I : MI) : rF I (I 194) (I 195) (I 188 22) = I := by
  funext a j
  unfold rF
  by_cases h1 : a = 194
  · rw [if_pos h1, h1]
  · rw [if_neg h1]
    by_cases h2 : a = 195
    · rw [if_pos h2, h2]
    · rw [if_neg h2]
      by_cases h3 : a = 188 ∧ j = 22
      · rw [if_pos h3, h3.1, h3.2]
      · rw [if_neg h3]
theorem rF_D (I : MI) (D G : RowV) (c : Int32) : rF I D G c 194 = D := by
  funext j
  exact if_pos rfl
theorem rF_G (I : MI) (D G : RowV) (c : Int32) : rF I D G c 195 = G := by
  funext j
  unfold rF
  rw [if_neg (by decide), if_pos rfl]
theorem rF_c (I : MI) (D G : RowV) (c : Int32) : rF I D G c 188 22 = c := by
  unfold rF
  rw [if_neg (by decide), if_neg (by decide), if_pos ⟨rfl, rfl⟩]
theorem rF_k (I : MI) (D G : RowV) (c : Int32) {k : Nat} (h : k ≠ 22) : rF I D G c 188 k = I 188 k := by
  unfold rF
  rw [if_neg (by decide), if_neg (by decide), if_neg (fun q => h q.2)]
theorem rF_o (I : MI) (D G : RowV) (c : Int32) {a : Nat} (h1 : a ≠ 188) (h2 : a ≠ 194) (h3 : a ≠ 195) : rF I D G c a = I a := by
  funext j
  unfold rF
  rw [if_neg h2, if_neg h3, if_neg (fun q => h1 q.1)]
theorem rF_sD (I : MI) (D G : RowV) (c : Int32) (i : Nat) (v : Int32) : up2 (rF I D G c) 194 i v = rF I (sD D i v) G c := by
  funext a j
  unfold up2 rF sD
  by_cases h : a = 194
  · subst h
    simp
  · simp [h]
theorem rF_sG (I : MI) (D G : RowV) (c : Int32) (i : Nat) (v : Int32) : up2 (rF I D G c) 195 i v = rF I D (sD G i v) c := by
  funext a j
  unfold up2 rF sD
  by_cases h : a = 195
  · subst h
    simp
  · simp [h]
theorem rF_sc (I : MI) (D G : RowV) (c : Int32) (v : Int32) : up2 (rF I D G c) 188 22 v = rF I D G v := by
  funext a j
  unfold up2 rF
  by_cases h : a = 188 ∧ j = 22
  · rw [if_pos h, if_neg (by omega), if_neg (by omega), if_pos h]
  · simp [h]
theorem rF_so (I : MI) (D G : RowV) (c : Int32) {a k : Nat} (v : Int32) (h2 : a ≠ 194) (h3 : a ≠ 195) (h1 : ¬ (a = 188 ∧ k = 22)) : up2 (rF I D G c) a k v = rF (up2 I a k v) D G c := by
  funext x j
  unfold up2 rF
  by_cases e1 : x = 194
  · subst e1
    simp [Ne.symm h2]
  · by_cases e2 : x = 195
    · subst e2
      simp [Ne.symm h3]
    · by_cases e3 : x = 188 ∧ j = 22
      · rw [if_neg (by omega), if_neg e1, if_neg e2, if_pos e3, if_neg e1, if_neg e2, if_pos e3]
      · simp [e1, e2, e3]
theorem RefL.kt {J : MJ} (h : RefL J) (I : MI) : (kd (I, J) 188 = 10) = True := eq_true h.k
theorem RefL.f0 {J : MJ} (h : RefL J) (I : MI) : fR (I, J) 10 188 0 = some (some 189) := by rw [fR_ok 0 h.k, h.r0]
theorem RefL.f14 {J : MJ} (h : RefL J) (I : MI) : fR (I, J) 10 188 14 = some (some 192) := by rw [fR_ok 14 h.k, h.r14]
theorem RefL.f16 {J : MJ} (h : RefL J) (I : MI) : fR (I, J) 10 188 16 = some (some 193) := by rw [fR_ok 16 h.k, h.r16]
theorem RefL.f18 {J : MJ} (h : RefL J) (I : MI) : fR (I, J) 10 188 18 = some (some 194) := by rw [fR_ok 18 h.k, h.r18]
theorem RefL.f19 {J : MJ} (h : RefL J) (I : MI) : fR (I, J) 10 188 19 = some (some 195) := by rw [fR_ok 19 h.k, h.r19]
theorem RefL.f23 {J : MJ} (h : RefL J) (I : MI) : fR (I, J) 10 188 23 = some (some 196) := by rw [fR_ok 23 h.k, h.r23]
theorem RefL.f27 {J : MJ} (h : RefL J) (I : MI) : fR (I, J) 10 188 27 = some (some 199) := by rw [fR_ok 27 h.k, h.r27]
theorem RefL.fi {J : MJ} (h : RefL J) (I : MI) (k : Nat) : fI (I, J) 10 188 k = some (I 188 k) := fI_ok k h.k
theorem RefL.fz {J : MJ} (h : RefL J) (I : MI) (k : Nat) : fZ (I, J) 10 188 k = some (bz (I 188 k)) := fZ_ok k h.k
theorem RefL.wi {J : MJ} (h : RefL J) (I : MI) (k : Nat) (v : Int32) : wI (I, J) 10 188 k v = some (up2 I 188 k v, J) := wI_ok k v h.k
theorem RefL.ldD {J : MJ} (h : RefL J) (I : MI) {x : Int32} {k : Nat} (hx : x = nI k) (hk : k < 1853) : ld (I, J) 11 194 x = some (I 194 k) := by
  subst hx
  exact ld194 h I hk
theorem RefL.stD {J : MJ} (h : RefL J) (I : MI) {x : Int32} {k : Nat} (v : Int32) (hx : x = nI k) (hk : k < 1853) : st (I, J) 11 194 x v = some (up2 I 194 k v, J) := by
  subst hx
  exact st194 h I hk v
theorem RefL.ldG {J : MJ} (h : RefL J) (I : MI) {x : Int32} {k : Nat} (hx : x = nI k) (hk : k < 128) : ld (I, J) 11 195 x = some (I 195 k) := by
  subst hx
  rw [ld_ok _ h.s19 (inb_nI hk (by decide)), show (nI k).toNatClampNeg = k from ix_nI (by omega)]
theorem RefL.stG {J : MJ} (h : RefL J) (I : MI) {x : Int32} {k : Nat} (v : Int32) (hx : x = nI k) (hk : k < 128) : st (I, J) 11 195 x v = some (up2 I 195 k v, J) := by
  subst hx
  rw [st_ok _ _ h.s19 (inb_nI hk (by decide)), show (nI k).toNatClampNeg = k from ix_nI (by omega)]
theorem nI_m1 {k : Nat} (hk : k < 2 ^ 31) : ¬ nI k = -1 := fun q => by
  have := congrArg Int32.toInt q
  rw [nI_toInt hk] at this
  have e0 : (-1 : Int32).toInt = -1 := rfl
  omega
theorem oI_m1 {o : Option Nat} (h : ∀ k, o = some k → k < 2 ^ 31) : oI o = -1 ↔ o = none := by
  cases o with
  | none => exact ⟨fun _ => rfl, fun _ => rfl⟩
  | some k =>
    constructor
    · intro q
      exact absurd q (nI_m1 (h k rfl))
    · intro q
      cases q

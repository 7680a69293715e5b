/-! The reference made. Written by gen/ctor10.py. -/
def RefL (J : MJ) : Prop := (jS J 188).1 = 10 ∧ jR J 188 0 = some 189 ∧ jR J 188 8 = some 190 ∧ jR J 188 9 = some 191 ∧ jR J 188 14 = some 192 ∧ jR J 188 16 = some 193 ∧ jR J 188 18 = some 194 ∧ jR J 188 19 = some 195 ∧ jR J 188 23 = some 196 ∧ jR J 188 24 = some 197 ∧ jR J 188 26 = some 198 ∧ jR J 188 27 = some 199 ∧ jR J 188 30 = some 200 ∧ jR J 188 33 = some 201 ∧ jR J 188 34 = some 202 ∧ jR J 188 35 = some 203 ∧ jR J 188 39 = some 204 ∧ jR J 188 40 = some 205 ∧ jR J 188 41 = some 206 ∧ jR J 188 42 = some 207 ∧ jS J 189 = (11, 400) ∧ jS J 190 = (11, 6) ∧ jS J 191 = (11, 240) ∧ jS J 192 = (11, 64) ∧ jS J 193 = (11, 64) ∧ jS J 194 = (11, 1853) ∧ jS J 195 = (11, 128) ∧ jS J 196 = (11, 1853) ∧ jS J 197 = (11, 300) ∧ jS J 198 = (11, 64) ∧ jS J 199 = (11, 37060) ∧ jS J 200 = (12, 128) ∧ jS J 201 = (11, 4) ∧ jS J 202 = (11, 144) ∧ jS J 203 = (11, 12) ∧ jS J 204 = (11, 144) ∧ jS J 205 = (11, 12) ∧ jS J 206 = (11, 492) ∧ jS J 207 = (12, 41)
theorem RefL.k {J : MJ} (h : RefL J) : (jS J 188).1 = 10 := h.1
theorem RefL.r0 {J : MJ} (h : RefL J) : jR J 188 0 = some 189 := h.2.1
theorem RefL.r8 {J : MJ} (h : RefL J) : jR J 188 8 = some 190 := h.2.2.1
theorem RefL.r9 {J : MJ} (h : RefL J) : jR J 188 9 = some 191 := h.2.2.2.1
theorem RefL.r14 {J : MJ} (h : RefL J) : jR J 188 14 = some 192 := h.2.2.2.2.1
theorem RefL.r16 {J : MJ} (h : RefL J) : jR J 188 16 = some 193 := h.2.2.2.2.2.1
theorem RefL.r18 {J : MJ} (h : RefL J) : jR J 188 18 = some 194 := h.2.2.2.2.2.2.1
theorem RefL.r19 {J : MJ} (h : RefL J) : jR J 188 19 = some 195 := h.2.2.2.2.2.2.2.1
theorem RefL.r23 {J : MJ} (h : RefL J) : jR J 188 23 = some 196 := h.2.2.2.2.2.2.2.2.1
theorem RefL.r24 {J : MJ} (h : RefL J) : jR J 188 24 = some 197 := h.2.2.2.2.2.2.2.2.2.1
theorem RefL.r26 {J : MJ} (h : RefL J) : jR J 188 26 = some 198 := h.2.2.2.2.2.2.2.2.2.2.1
theorem RefL.r27 {J : MJ} (h : RefL J) : jR J 188 27 = some 199 := h.2.2.2.2.2.2.2.2.2.2.2.1
theorem RefL.r30 {J : MJ} (h : RefL J) : jR J 188 30 = some 200 := h.2.2.2.2.2.2.2.2.2.2.2.2.1
theorem RefL.r33 {J : MJ} (h : RefL J) : jR J 188 33 = some 201 := h.2.2.2.2.2.2.2.2.2.2.2.2.2.1
theorem RefL.r34 {J : MJ} (h : RefL J) : jR J 188 34 = some 202 := h.2.2.2.2.2.2.2.2.2.2.2.2.2.2.1
theorem RefL.r35 {J : MJ} (h : RefL J) : jR J 188 35 = some 203 := h.2.2.2.2.2.2.2.2.2.2.2.2.2.2.2.1
theorem RefL.r39 {J : MJ} (h : RefL J) : jR J 188 39 = some 204 := h.2.2.2.2.2.2.2.2.2.2.2.2.2.2.2.2.1
theorem RefL.r40 {J : MJ} (h : RefL J) : jR J 188 40 = some 205 := h.2.2.2.2.2.2.2.2.2.2.2.2.2.2.2.2.2.1
theorem RefL.r41 {J : MJ} (h : RefL J) : jR J 188 41 = some 206 := h.2.2.2.2.2.2.2.2.2.2.2.2.2.2.2.2.2.2.1
theorem RefL.r42 {J : MJ} (h : RefL J) : jR J 188 42 = some 207 := h.2.2.2.2.2.2.2.2.2.2.2.2.2.2.2.2.2.2.2.1
theorem RefL.s0 {J : MJ} (h : RefL J) : jS J 189 = (11, 400) := h.2.2.2.2.2.2.2.2.2.2.2.2.2.2.2.2.2.2.2.2.1
theorem RefL.s8 {J : MJ} (h : RefL J) : jS J 190 = (11, 6) := h.2.2.2.2.2.2.2.2.2.2.2.2.2.2.2.2.2.2.2.2.2.1
theorem RefL.s9 {J : MJ} (h : RefL J) : jS J 191 = (11, 240) := h.2.2.2.2.2.2.2.2.2.2.2.2.2.2.2.2.2.2.2.2.2.2.1
theorem RefL.s14 {J : MJ} (h : RefL J) : jS J 192 = (11, 64) := h.2.2.2.2.2.2.2.2.2.2.2.2.2.2.2.2.2.2.2.2.2.2.2.1
theorem RefL.s16 {J : MJ} (h : RefL J) : jS J 193 = (11, 64) := h.2.2.2.2.2.2.2.2.2.2.2.2.2.2.2.2.2.2.2.2.2.2.2.2.1
theorem RefL.s18 {J : MJ} (h : RefL J) : jS J 194 = (11, 1853) := h.2.2.2.2.2.2.2.2.2.2.2.2.2.2.2.2.2.2.2.2.2.2.2.2.2.1
theorem RefL.s19 {J : MJ} (h : RefL J) : jS J 195 = (11, 128) := h.2.2.2.2.2.2.2.2.2.2.2.2.2.2.2.2.2.2.2.2.2.2.2.2.2.2.1
theorem RefL.s23 {J : MJ} (h : RefL J) : jS J 196 = (11, 1853) := h.2.2.2.2.2.2.2.2.2.2.2.2.2.2.2.2.2.2.2.2.2.2.2.2.2.2.2.1
theorem RefL.s24 {J : MJ} (h : RefL J) : jS J 197 = (11, 300) := h.2.2.2.2.2.2.2.2.2.2.2.2.2.2.2.2.2.2.2.2.2.2.2.2.2.2.2.2.1
theorem RefL.s26 {J : MJ} (h : RefL J) : jS J 198 = (11, 64) := h.2.2.2.2.2.2.2.2.2.2.2.2.2.2.2.2.2.2.2.2.2.2.2.2.2.2.2.2.2.1
theorem RefL.s27 {J : MJ} (h : RefL J) : jS J 199 = (11, 37060) := h.2.2.2.2.2.2.2.2.2.2.2.2.2.2.2.2.2.2.2.2.2.2.2.2.2.2.2.2.2.2.1
theorem RefL.s30 {J : MJ} (h : RefL J) : jS J 200 = (12, 128) := h.2.2.2.2.2.2.2.2.2.2.2.2.2.2.2.2.2.2.2.2.2.2.2.2.2.2.2.2.2.2.2.1
theorem RefL.s33 {J : MJ} (h : RefL J) : jS J 201 = (11, 4) := h.2.2.2.2.2.2.2.2.2.2.2.2.2.2.2.2.2.2.2.2.2.2.2.2.2.2.2.2.2.2.2.2.1
theorem RefL.s34 {J : MJ} (h : RefL J) : jS J 202 = (11, 144) := h.2.2.2.2.2.2.2.2.2.2.2.2.2.2.2.2.2.2.2.2.2.2.2.2.2.2.2.2.2.2.2.2.2.1
theorem RefL.s35 {J : MJ} (h : RefL J) : jS J 203 = (11, 12) := h.2.2.2.2.2.2.2.2.2.2.2.2.2.2.2.2.2.2.2.2.2.2.2.2.2.2.2.2.2.2.2.2.2.2.1
theorem RefL.s39 {J : MJ} (h : RefL J) : jS J 204 = (11, 144) := h.2.2.2.2.2.2.2.2.2.2.2.2.2.2.2.2.2.2.2.2.2.2.2.2.2.2.2.2.2.2.2.2.2.2.2.1
theorem RefL.s40 {J : MJ} (h : RefL J) : jS J 205 = (11, 12) := h.2.2.2.2.2.2.2.2.2.2.2.2.2.2.2.2.2.2.2.2.2.2.2.2.2.2.2.2.2.2.2.2.2.2.2.2.1
theorem RefL.s41 {J : MJ} (h : RefL J) : jS J 206 = (11, 492) := h.2.2.2.2.2.2.2.2.2.2.2.2.2.2.2.2.2.2.2.2.2.2.2.2.2.2.2.2.2.2.2.2.2.2.2.2.2.1
theorem RefL.s42 {J : MJ} (h : RefL J) : jS J 207 = (12, 41) := h.2.2.2.2.2.2.2.2.2.2.2.2.2.2.2.2.2.2.2.2.2.2.2.2.2.2.2.2.2.2.2.2.2.2.2.2.2.2
theorem c_X10_init {s : MH} (c0 : sz s = 189) (hk : s.2.2.2.1 188 = (10, 43)) (hi : s.1 188 = fun _ => 0) : ∃ s', M_X10_init [mR (some 188)] s = some (none, s') ∧ sz s' = 208 ∧ sl s' = sl s + 43009 ∧ (∀ x, x < 188 → Sm s s' x) ∧ RefL s'.2 ∧ s'.2.1 188 31 = 1 ∧ (s'.1 188 = fun y => if y = 7 ∨ y = 20 ∨ y = 21 ∨ y = 37 then -1 else 0) ∧ ∀ x, 189 ≤ x → x < 208 → s'.1 x = fun _ => 0 := by
  have k0 : kd s 188 = 10 := congrArg Prod.fst hk
  have a0 := aws_a 188 [(11, 400, 0)] s (by omega)
  have w0 := aws_sz 188 [(11, 400, 0)] s
  have m0 := aws_sm 188 [(11, 400, 0)] s
  have n0 := fun i q hq => aws_new 188 [(11, 400, 0)] s i q (by omega) hq
  have e0 : ∀ f : MH → Option MO, ((nw s 11 400).bind fun p0 => (wR p0 10 188 0 (some (sz s))).bind f) = f (aws 188 [(11, 400, 0)] s) := by
    intro f
    show ((nw (aws 188 [] s) 11 400).bind fun s1 => (wR s1 10 188 0 (some (sz (aws 188 [] s)))).bind _) = _
    rw [aw_step k0 (by omega) _ 11 400 0 400 (by decide) (by decide) (by decide)]
    rfl
  generalize ht0 : aws 188 [(11, 400, 0)] s = t0 at a0 w0 m0 n0 e0
  have kt0 : kd t0 188 = 10 := (congrArg Prod.fst a0.2.2.1).trans k0
  have ct0 : sz t0 = 190 := by rw [w0.1, c0]; rfl
  rw [c0] at n0
  generalize hv0 : sI t0 188 7 (-1) = v0
  have k1 : kd v0 188 = 10 := by rw [← hv0]; exact kt0
  have cv0 : sz v0 = 190 := by rw [← hv0]; exact ct0
  have bv0 : sl v0 = sl t0 := by rw [← hv0]
  have jv0 : v0.2 = t0.2 := by rw [← hv0]
  have uv0 : ∀ x, x ≠ 188 → Sm t0 v0 x := fun x q => by
    rw [← hv0]
    refine ⟨?_, rfl, rfl, rfl⟩
    funext y
    simp [up2, q]
  have rrv0 : v0.2.2.1 = t0.2.2.1 := by rw [← hv0]
  have a1 := aws_a 188 [(11, 6, 8), (11, 240, 9), (11, 64, 14), (11, 64, 16), (11, 1853, 18), (11, 128, 19)] v0 (by omega)
  have w1 := aws_sz 188 [(11, 6, 8), (11, 240, 9), (11, 64, 14), (11, 64, 16), (11, 1853, 18), (11, 128, 19)] v0
  have m1 := aws_sm 188 [(11, 6, 8), (11, 240, 9), (11, 64, 14), (11, 64, 16), (11, 1853, 18), (11, 128, 19)] v0
  have n1 := fun i q hq => aws_new 188 [(11, 6, 8), (11, 240, 9), (11, 64, 14), (11, 64, 16), (11, 1853, 18), (11, 128, 19)] v0 i q (by omega) hq
  have e1 : ∀ f : MH → Option MO, ((nw v0 11 6).bind fun p0 => (wR p0 10 188 8 (some (sz v0))).bind fun q0 => (nw q0 11 240).bind fun p1 => (wR p1 10 188 9 (some (sz q0))).bind fun q1 => (nw q1 11 64).bind fun p2 => (wR p2 10 188 14 (some (sz q1))).bind fun q2 => (nw q2 11 64).bind fun p3 => (wR p3 10 188 16 (some (sz q2))).bind fun q3 => (nw q3 11 1853).bind fun p4 => (wR p4 10 188 18 (some (sz q3))).bind fun q4 => (nw q4 11 128).bind fun p5 => (wR p5 10 188 19 (some (sz q4))).bind f) = f (aws 188 [(11, 6, 8), (11, 240, 9), (11, 64, 14), (11, 64, 16), (11, 1853, 18), (11, 128, 19)] v0) := by
    intro f
    show ((nw (aws 188 [] v0) 11 6).bind fun s1 => (wR s1 10 188 8 (some (sz (aws 188 [] v0)))).bind _) = _
    rw [aw_step k1 (by omega) _ 11 6 8 6 (by decide) (by decide) (by decide), aw_step k1 (by omega) _ 11 240 9 240 (by decide) (by decide) (by decide), aw_step k1 (by omega) _ 11 64 14 64 (by decide) (by decide) (by decide), aw_step k1 (by omega) _ 11 64 16 64 (by decide) (by decide) (by decide), aw_step k1 (by omega) _ 11 1853 18 1853 (by decide) (by decide) (by decide), aw_step k1 (by omega) _ 11 128 19 128 (by decide) (by decide) (by decide)]
    rfl
  generalize ht1 : aws 188 [(11, 6, 8), (11, 240, 9), (11, 64, 14), (11, 64, 16), (11, 1853, 18), (11, 128, 19)] v0 = t1 at a1 w1 m1 n1 e1
  have kt1 : kd t1 188 = 10 := (congrArg Prod.fst a1.2.2.1).trans k1
  have ct1 : sz t1 = 196 := by rw [w1.1, cv0]; rfl
  rw [cv0] at n1
  generalize hv1 : sI (sI t1 188 20 (-1)) 188 21 (-1) = v1
  have k2 : kd v1 188 = 10 := by rw [← hv1]; exact kt1
  have cv1 : sz v1 = 196 := by rw [← hv1]; exact ct1
  have bv1 : sl v1 = sl t1 := by rw [← hv1]
  have jv1 : v1.2 = t1.2 := by rw [← hv1]
  have uv1 : ∀ x, x ≠ 188 → Sm t1 v1 x := fun x q => by
    rw [← hv1]
    refine ⟨?_, rfl, rfl, rfl⟩
    funext y
    simp [up2, q]
  have rrv1 : v1.2.2.1 = t1.2.2.1 := by rw [← hv1]
  have a2 := aws_a 188 [(11, 1853, 23), (11, 300, 24), (11, 64, 26), (11, 37060, 27), (12, 128, 30)] v1 (by omega)
  have w2 := aws_sz 188 [(11, 1853, 23), (11, 300, 24), (11, 64, 26), (11, 37060, 27), (12, 128, 30)] v1
  have m2 := aws_sm 188 [(11, 1853, 23), (11, 300, 24), (11, 64, 26), (11, 37060, 27), (12, 128, 30)] v1
  have n2 := fun i q hq => aws_new 188 [(11, 1853, 23), (11, 300, 24), (11, 64, 26), (11, 37060, 27), (12, 128, 30)] v1 i q (by omega) hq
  have e2 : ∀ f : MH → Option MO, ((nw v1 11 1853).bind fun p0 => (wR p0 10 188 23 (some (sz v1))).bind fun q0 => (nw q0 11 300).bind fun p1 => (wR p1 10 188 24 (some (sz q0))).bind fun q1 => (nw q1 11 64).bind fun p2 => (wR p2 10 188 26 (some (sz q1))).bind fun q2 => (nw q2 11 37060).bind fun p3 => (wR p3 10 188 27 (some (sz q2))).bind fun q3 => (nw q3 12 128).bind fun p4 => (wR p4 10 188 30 (some (sz q3))).bind f) = f (aws 188 [(11, 1853, 23), (11, 300, 24), (11, 64, 26), (11, 37060, 27), (12, 128, 30)] v1) := by
    intro f
    show ((nw (aws 188 [] v1) 11 1853).bind fun s1 => (wR s1 10 188 23 (some (sz (aws 188 [] v1)))).bind _) = _
    rw [aw_step k2 (by omega) _ 11 1853 23 1853 (by decide) (by decide) (by decide), aw_step k2 (by omega) _ 11 300 24 300 (by decide) (by decide) (by decide), aw_step k2 (by omega) _ 11 64 26 64 (by decide) (by decide) (by decide), aw_step k2 (by omega) _ 11 37060 27 37060 (by decide) (by decide) (by decide), aw_step k2 (by omega) _ 12 128 30 128 (by decide) (by decide) (by decide)]
    rfl
  generalize ht2 : aws 188 [(11, 1853, 23), (11, 300, 24), (11, 64, 26), (11, 37060, 27), (12, 128, 30)] v1 = t2 at a2 w2 m2 n2 e2
  have kt2 : kd t2 188 = 10 := (congrArg Prod.fst a2.2.2.1).trans k2
  have ct2 : sz t2 = 201 := by rw [w2.1, cv1]; rfl
  rw [cv1] at n2
  generalize hv2 : sL t2 188 31 1 = v2
  have k3 : kd v2 188 = 10 := by rw [← hv2]; exact kt2
  have cv2 : sz v2 = 201 := by rw [← hv2]; exact ct2
  have bv2 : sl v2 = sl t2 := by rw [← hv2]
  have uv2 : ∀ x, x ≠ 188 → Sm t2 v2 x := fun x q => by
    rw [← hv2]
    refine ⟨rfl, ?_, rfl, rfl⟩
    funext y
    simp [up2, q]
  have rrv2 : v2.2.2.1 = t2.2.2.1 := by rw [← hv2]
  have a3 := aws_a 188 [(11, 4, 33), (11, 144, 34), (11, 12, 35)] v2 (by omega)
  have w3 := aws_sz 188 [(11, 4, 33), (11, 144, 34), (11, 12, 35)] v2
  have m3 := aws_sm 188 [(11, 4, 33), (11, 144, 34), (11, 12, 35)] v2
  have n3 := fun i q hq => aws_new 188 [(11, 4, 33), (11, 144, 34), (11, 12, 35)] v2 i q (by omega) hq
  have e3 : ∀ f : MH → Option MO, ((nw v2 11 4).bind fun p0 => (wR p0 10 188 33 (some (sz v2))).bind fun q0 => (nw q0 11 144).bind fun p1 => (wR p1 10 188 34 (some (sz q0))).bind fun q1 => (nw q1 11 12).bind fun p2 => (wR p2 10 188 35 (some (sz q1))).bind f) = f (aws 188 [(11, 4, 33), (11, 144, 34), (11, 12, 35)] v2) := by
    intro f
    show ((nw (aws 188 [] v2) 11 4).bind fun s1 => (wR s1 10 188 33 (some (sz (aws 188 [] v2)))).bind _) = _
    rw [aw_step k3 (by omega) _ 11 4 33 4 (by decide) (by decide) (by decide), aw_step k3 (by omega) _ 11 144 34 144 (by decide) (by decide) (by decide), aw_step k3 (by omega) _ 11 12 35 12 (by decide) (by decide) (by decide)]
    rfl
  generalize ht3 : aws 188 [(11, 4, 33), (11, 144, 34), (11, 12, 35)] v2 = t3 at a3 w3 m3 n3 e3
  have kt3 : kd t3 188 = 10 := (congrArg Prod.fst a3.2.2.1).trans k3
  have ct3 : sz t3 = 204 := by rw [w3.1, cv2]; rfl
  rw [cv2] at n3
  generalize hv3 : sI t3 188 37 (-1) = v3
  have k4 : kd v3 188 = 10 := by rw [← hv3]; exact kt3
  have cv3 : sz v3 = 204 := by rw [← hv3]; exact ct3
  have bv3 : sl v3 = sl t3 := by rw [← hv3]
  have jv3 : v3.2 = t3.2 := by rw [← hv3]
  have uv3 : ∀ x, x ≠ 188 → Sm t3 v3 x := fun x q => by
    rw [← hv3]
    refine ⟨?_, rfl, rfl, rfl⟩
    funext y
    simp [up2, q]
  have rrv3 : v3.2.2.1 = t3.2.2.1 := by rw [← hv3]
  have a4 := aws_a 188 [(11, 144, 39), (11, 12, 40), (11, 492, 41), (12, 41, 42)] v3 (by omega)
  have w4 := aws_sz 188 [(11, 144, 39), (11, 12, 40), (11, 492, 41), (12, 41, 42)] v3
  have m4 := aws_sm 188 [(11, 144, 39), (11, 12, 40), (11, 492, 41), (12, 41, 42)] v3
  have n4 := fun i q hq => aws_new 188 [(11, 144, 39), (11, 12, 40), (11, 492, 41), (12, 41, 42)] v3 i q (by omega) hq
  have e4 : ∀ f : MH → Option MO, ((nw v3 11 144).bind fun p0 => (wR p0 10 188 39 (some (sz v3))).bind fun q0 => (nw q0 11 12).bind fun p1 => (wR p1 10 188 40 (some (sz q0))).bind fun q1 => (nw q1 11 492).bind fun p2 => (wR p2 10 188 41 (some (sz q1))).bind fun q2 => (nw q2 12 41).bind fun p3 => (wR p3 10 188 42 (some (sz q2))).bind f) = f (aws 188 [(11, 144, 39), (11, 12, 40), (11, 492, 41), (12, 41, 42)] v3) := by
    intro f
    show ((nw (aws 188 [] v3) 11 144).bind fun s1 => (wR s1 10 188 39 (some (sz (aws 188 [] v3)))).bind _) = _
    rw [aw_step k4 (by omega) _ 11 144 39 144 (by decide) (by decide) (by decide), aw_step k4 (by omega) _ 11 12 40 12 (by decide) (by decide) (by decide), aw_step k4 (by omega) _ 11 492 41 492 (by decide) (by decide) (by decide), aw_step k4 (by omega) _ 12 41 42 41 (by decide) (by decide) (by decide)]
    rfl
  generalize ht4 : aws 188 [(11, 144, 39), (11, 12, 40), (11, 492, 41), (12, 41, 42)] v3 = t4 at a4 w4 m4 n4 e4
  have kt4 : kd t4 188 = 10 := (congrArg Prod.fst a4.2.2.1).trans k4
  have ct4 : sz t4 = 208 := by rw [w4.1, cv3]; rfl
  rw [cv3] at n4
  have T4 : ∀ x, x < 208 → x ≠ 188 → Sm t4 t4 x := fun x _ _ => Sm.refl _ x
  have T3 : ∀ x, x < 204 → x ≠ 188 → Sm t3 t4 x := fun x h1 h2 => ((uv3 x h2).trans (m4 x (by omega) h2)).trans (T4 x (by omega) h2)
  have T2 : ∀ x, x < 201 → x ≠ 188 → Sm t2 t4 x := fun x h1 h2 => ((uv2 x h2).trans (m3 x (by omega) h2)).trans (T3 x (by omega) h2)
  have T1 : ∀ x, x < 196 → x ≠ 188 → Sm t1 t4 x := fun x h1 h2 => ((uv1 x h2).trans (m2 x (by omega) h2)).trans (T2 x (by omega) h2)
  have T0 : ∀ x, x < 190 → x ≠ 188 → Sm t0 t4 x := fun x h1 h2 => ((uv0 x h2).trans (m1 x (by omega) h2)).trans (T1 x (by omega) h2)
  refine ⟨t4, ?_, ct4, ?_, ?_, ?_, ?_, ?_, ?_⟩
  · rw [E_X10_init, e0, show wI t0 10 188 7 (-1) = some (sI t0 188 7 (-1)) from if_pos kt0, Option.bind_some, hv0, e1, show wI t1 10 188 20 (-1) = some (sI t1 188 20 (-1)) from if_pos kt1, Option.bind_some, show wI (sI t1 188 20 (-1)) 10 188 21 (-1) = some (sI (sI t1 188 20 (-1)) 188 21 (-1)) from if_pos kt1, Option.bind_some, hv1, e2, show wL t2 10 188 31 1 = some (sL t2 188 31 1) from if_pos kt2, Option.bind_some, hv2, e3, show wI t3 10 188 37 (-1) = some (sI t3 188 37 (-1)) from if_pos kt3, Option.bind_some, hv3, e4]
  · rewrite [w4.2, bv3, w3.2, bv2, w2.2, bv1, w1.2, bv0, w0.2, show slo [(11, 400, 0)] = 400 by decide, show slo [(11, 6, 8), (11, 240, 9), (11, 64, 14), (11, 64, 16), (11, 1853, 18), (11, 128, 19)] = 2355 by decide, show slo [(11, 1853, 23), (11, 300, 24), (11, 64, 26), (11, 37060, 27), (12, 128, 30)] = 39405 by decide, show slo [(11, 4, 33), (11, 144, 34), (11, 12, 35)] = 160 by decide, show slo [(11, 144, 39), (11, 12, 40), (11, 492, 41), (12, 41, 42)] = 689 by decide]
    omega
  · intro x hx
    exact (m0 x (by omega) (by omega)).trans (T0 x (by omega) (by omega))
  · have R4 : ∀ k, t4.2.2.1 188 k = match rk [(11, 144, 39), (11, 12, 40), (11, 492, 41), (12, 41, 42)] 204 k with
      | some x => some x
      | none => t3.2.2.1 188 k := fun k => by rw [a4.2.2.2 k, cv3, rrv3]; rfl
    have R3 : ∀ k, t3.2.2.1 188 k = match rk [(11, 4, 33), (11, 144, 34), (11, 12, 35)] 201 k with
      | some x => some x
      | none => t2.2.2.1 188 k := fun k => by rw [a3.2.2.2 k, cv2, rrv2]; rfl
    have R2 : ∀ k, t2.2.2.1 188 k = match rk [(11, 1853, 23), (11, 300, 24), (11, 64, 26), (11, 37060, 27), (12, 128, 30)] 196 k with
      | some x => some x
      | none => t1.2.2.1 188 k := fun k => by rw [a2.2.2.2 k, cv1, rrv1]; rfl
    have R1 : ∀ k, t1.2.2.1 188 k = match rk [(11, 6, 8), (11, 240, 9), (11, 64, 14), (11, 64, 16), (11, 1853, 18), (11, 128, 19)] 190 k with
      | some x => some x
      | none => t0.2.2.1 188 k := fun k => by rw [a1.2.2.2 k, cv0, rrv0]; rfl
    have R0 : ∀ k, t0.2.2.1 188 k = match rk [(11, 400, 0)] 189 k with
      | some x => some x
      | none => s.2.2.1 188 k := fun k => by rw [a0.2.2.2 k, c0]; rfl
    refine ⟨kt4, (((((R4 0).trans (R3 0)).trans (R2 0)).trans (R1 0)).trans (R0 0)), ((((R4 8).trans (R3 8)).trans (R2 8)).trans (R1 8)), ((((R4 9).trans (R3 9)).trans (R2 9)).trans (R1 9)), ((((R4 14).trans (R3 14)).trans (R2 14)).trans (R1 14)), ((((R4 16).trans (R3 16)).trans (R2 16)).trans (R1 16)), ((((R4 18).trans (R3 18)).trans (R2 18)).trans (R1 18)), ((((R4 19).trans (R3 19)).trans (R2 19)).trans (R1 19)), (((R4 23).trans (R3 23)).trans (R2 23)), (((R4 24).trans (R3 24)).trans (R2 24)), (((R4 26).trans (R3 26)).trans (R2 26)), (((R4 27).trans (R3 27)).trans (R2 27)), (((R4 30).trans (R3 30)).trans (R2 30)), ((R4 33).trans (R3 33)), ((R4 34).trans (R3 34)), ((R4 35).trans (R3 35)), (R4 39), (R4 40), (R4 41), (R4 42), (T0 189 (by decide) (by decide)).2.2.2.trans (n0 0 _ rfl).2.1, (T1 190 (by decide) (by decide)).2.2.2.trans (n1 0 _ rfl).2.1, (T1 191 (by decide) (by decide)).2.2.2.trans (n1 1 _ rfl).2.1, (T1 192 (by decide) (by decide)).2.2.2.trans (n1 2 _ rfl).2.1, (T1 193 (by decide) (by decide)).2.2.2.trans (n1 3 _ rfl).2.1, (T1 194 (by decide) (by decide)).2.2.2.trans (n1 4 _ rfl).2.1, (T1 195 (by decide) (by decide)).2.2.2.trans (n1 5 _ rfl).2.1, (T2 196 (by decide) (by decide)).2.2.2.trans (n2 0 _ rfl).2.1, (T2 197 (by decide) (by decide)).2.2.2.trans (n2 1 _ rfl).2.1, (T2 198 (by decide) (by decide)).2.2.2.trans (n2 2 _ rfl).2.1, (T2 199 (by decide) (by decide)).2.2.2.trans (n2 3 _ rfl).2.1, (T2 200 (by decide) (by decide)).2.2.2.trans (n2 4 _ rfl).2.1, (T3 201 (by decide) (by decide)).2.2.2.trans (n3 0 _ rfl).2.1, (T3 202 (by decide) (by decide)).2.2.2.trans (n3 1 _ rfl).2.1, (T3 203 (by decide) (by decide)).2.2.2.trans (n3 2 _ rfl).2.1, (T4 204 (by decide) (by decide)).2.2.2.trans (n4 0 _ rfl).2.1, (T4 205 (by decide) (by decide)).2.2.2.trans (n4 1 _ rfl).2.1, (T4 206 (by decide) (by decide)).2.2.2.trans (n4 2 _ rfl).2.1, (T4 207 (by decide) (by decide)).2.2.2.trans (n4 3 _ rfl).2.1⟩
  · rw [a4.2.1, show v3.2.1 = t3.2.1 by rw [← hv3], a3.2.1, ← hv2]
    simp [up2]
  · rw [a4.1, ← hv3]
    funext y
    show up2 t3.1 188 37 (-1) 188 y = _
    have e3 : t3.1 188 = t2.1 188 := by rw [a3.1, ← hv2]
    have e1 : t2.1 188 = v1.1 188 := a2.1
    have e2 : t1.1 188 = v0.1 188 := a1.1
    unfold up2
    by_cases q37 : y = 37
    · simp [q37]
    · rw [if_neg (fun q => q37 q.2), e3, e1, ← hv1]
      show up2 (up2 t1.1 188 20 (-1)) 188 21 (-1) 188 y = _
      unfold up2
      by_cases q21 : y = 21
      · simp [q21]
      · rw [if_neg (fun q => q21 q.2)]
        by_cases q20 : y = 20
        · simp [q20]
        · rw [if_neg (fun q => q20 q.2), e2, ← hv0]
          show up2 t0.1 188 7 (-1) 188 y = _
          unfold up2
          by_cases q7 : y = 7
          · simp [q7]
          · rw [if_neg (fun q => q7 q.2), a0.1, hi]
            simp [q7, q20, q21, q37]
  · intro x h1 h2
    by_cases e189 : x = 189
    · subst e189
      exact (T0 189 (by decide) (by decide)).1.trans (n0 0 _ rfl).1
    by_cases e190 : x = 190
    · subst e190
      exact (T1 190 (by decide) (by decide)).1.trans (n1 0 _ rfl).1
    by_cases e191 : x = 191
    · subst e191
      exact (T1 191 (by decide) (by decide)).1.trans (n1 1 _ rfl).1
    by_cases e192 : x = 192
    · subst e192
      exact (T1 192 (by decide) (by decide)).1.trans (n1 2 _ rfl).1
    by_cases e193 : x = 193
    · subst e193
      exact (T1 193 (by decide) (by decide)).1.trans (n1 3 _ rfl).1
    by_cases e194 : x = 194
    · subst e194
      exact (T1 194 (by decide) (by decide)).1.trans (n1 4 _ rfl).1
    by_cases e195 : x = 195
    · subst e195
      exact (T1 195 (by decide) (by decide)).1.trans (n1 5 _ rfl).1
    by_cases e196 : x = 196
    · subst e196
      exact (T2 196 (by decide) (by decide)).1.trans (n2 0 _ rfl).1
    by_cases e197 : x = 197
    · subst e197
      exact (T2 197 (by decide) (by decide)).1.trans (n2 1 _ rfl).1
    by_cases e198 : x = 198
    · subst e198
      exact (T2 198 (by decide) (by decide)).1.trans (n2 2 _ rfl).1
    by_cases e199 : x = 199
    · subst e199
      exact (T2 199 (by decide) (by decide)).1.trans (n2 3 _ rfl).1
    by_cases e200 : x = 200
    · subst e200
      exact (T2 200 (by decide) (by decide)).1.trans (n2 4 _ rfl).1
    by_cases e201 : x = 201
    · subst e201
      exact (T3 201 (by decide) (by decide)).1.trans (n3 0 _ rfl).1
    by_cases e202 : x = 202
    · subst e202
      exact (T3 202 (by decide) (by decide)).1.trans (n3 1 _ rfl).1
    by_cases e203 : x = 203
    · subst e203
      exact (T3 203 (by decide) (by decide)).1.trans (n3 2 _ rfl).1
    by_cases e204 : x = 204
    · subst e204
      exact (T4 204 (by decide) (by decide)).1.trans (n4 0 _ rfl).1
    by_cases e205 : x = 205
    · subst e205
      exact (T4 205 (by decide) (by decide)).1.trans (n4 1 _ rfl).1
    by_cases e206 : x = 206
    · subst e206
      exact (T4 206 (by decide) (by decide)).1.trans (n4 2 _ rfl).1
    by_cases e207 : x = 207
    · subst e207
      exact (T4 207 (by decide) (by decide)).1.trans (n4 3 _ rfl).1
    omega

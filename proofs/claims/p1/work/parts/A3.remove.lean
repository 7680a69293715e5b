/-! Something removed, on both sides. -/
theorem Rfs.remove : Rfs (M_X10_remove [mR (some 188)]) 3 := by
  intro J X X1 y h hp hc
  rw [E_X10_remove]
  simp only [h.kt, if_true, hp, Option.bind_some, asI_I, h.fz, w_refuses h _ (show (3 : Int32) = nI 3 from rfl) (by decide)]
  rcases hc with z | ⟨z1, z2⟩
  · rw [if_pos z]
  · rw [if_neg z1, if_pos z2]
theorem w_remove_loop {J : MJ} (h : RefL J) (I : MI) (D G : RowV) {e : Nat} (x1 : Int32) : Ev T_X10_remove 101 [some (mR (some 188)), some (mI x1), some (mI 0)] [] (rF I D G (nI e), J) = Ev T_X10_remove 101 [some (mR (some 188)), some (mI x1), some (mI (nI 128))] [] (rF I (itr (dcD e) 0 128 D) G (nI e), J) := by
  have s1 := loop_all (fun k D => Ev T_X10_remove 101 [some (mR (some 188)), some (mI x1), some (mI (nI k))] [] (rF I D G (nI e), J)) (dcD e) 128 D (fun k D hk => by
    try dsimp only
    rw [E_X10_remove_101, if_neg (show ¬ (128 : Int32) ≤ nI k from nI_ge hk (by decide))]
    simp only [h.kt, if_true, w_its h _ 0 (show (0 : Int32) = nI 0 from rfl) hk (by decide), w_its h _ 1 (show (1 : Int32) = nI 1 from rfl) hk (by decide), Option.bind_some, asI_I, rF_D, nI_1, h.fi, rF_c, h.f18, w_entryAt _ k 0 (show (0 : Int32) = nI 0 from rfl), h.stD _ _ rfl (show 701 + 9 * k + 0 < 1853 by omega), rF_sD]
    unfold dcD
    by_cases a : D (701 + 9 * k + 0) = 1
    · rw [if_pos a]
      by_cases b : D (701 + 9 * k + 1) = nI e
      · rw [if_pos b, if_pos ⟨a, b⟩]
      · rw [if_neg b, if_neg (fun z => b z.2)]
    · rw [if_neg a, if_neg (fun z => a z.1)])
  try dsimp only at s1
  rw [show (nI 0) = 0 from rfl] at s1
  exact s1
theorem uv_back (V : MemV) (q : Fin 12) (e : Nat) (c : Int32) : uv (uv V q e c) q e (V q e) = V := by
  funext k j
  simp only [uv]
  by_cases z : k = q ∧ j = e
  · rw [if_pos z, z.1, z.2]
  · rw [if_neg z, if_neg z]
/-- what the class has when a node is taken away -/
theorem Inv.removed {U : NodV} {V : MemV} {H : OneV} {W : WkV} {n vol t T : Nat} (i : Inv U V H W n vol t T (fun _ => 0)) (h30 : T + 1 ≤ 1000000000) {e k : Nat} (at' : At V e) (e2 : ¬ V 2 e = -1) (vc : ∀ v, v < 3 → ¬ V 10 v = nI e) (e4 : V 4 e = nI k) (kn : k < n) (k4 : ¬ U 4 k = 0) (nc : ∀ j, j < n → ¬ U 4 j = 0 → ¬ U 2 j = nI k) : ∃ B : MemV, Inv U B H W n vol t T (fun _ => 0) ∧ (∀ f, f < 64 → B 1 f = if ¬ V 1 f = 0 ∧ V 2 f = nI e then 0 else V 1 f) ∧ (∀ q : Fin 12, q ≠ 1 → q ≠ 5 → B q = V q) ∧ ¬ B 1 e = 0 ∧ Inv (uv U 4 k 0) (gV_X1_empty V (nI e)) H W n vol t (T + 1) (fun _ => 0) ∧ ((hc B H W e = 0 ∧ (∀ j, gV_X1_empty V (nI e) 4 j = if j = e then -1 else B 4 j) ∧ (∀ j, gV_X1_empty V (nI e) 6 j = if j = e then B 6 e + 1 else B 6 j) ∧ ∀ q : Fin 12, q ≠ 4 → q ≠ 6 → gV_X1_empty V (nI e) q = B q) ∨ (¬ hc B H W e = 0 ∧ (∀ j, gV_X1_empty V (nI e) 1 j = if j = e then 2 else B 1 j) ∧ (∀ j, gV_X1_empty V (nI e) 2 j = if j = e then -1 else B 2 j) ∧ (∀ j, gV_X1_empty V (nI e) 6 j = if j = e then B 6 e + 1 else B 6 j) ∧ ∀ q : Fin 12, q ≠ 1 → q ≠ 2 → q ≠ 5 → q ≠ 6 → gV_X1_empty V (nI e) q = B q)) := by
  have n60 := i.N.n60
  have e64 := at'.1
  have e1 := at'.2.1
  have e0 : ¬ V 1 e = 0 := by rw [e1]; exact i10
  have ab : ∀ f, f < 64 → ¬ V 1 f = 0 → V 2 f = nI e → V 4 f = -1 := fun f hf q1 q2 => by
    have f1 : V 1 f = 1 := by
      rcases i.M.st f hf with z | z | z
      · exact absurd z q1
      · exact z
      · have := (i.M.go f hf z).1
        rw [q2] at this
        exact absurd this (nI_m1 (by omega))
    obtain ⟨p, y1, y2, y3, y4, y5⟩ := i.M.ch f hf f1 (by rw [q2]; exact nI_m1 (by omega))
    have pe : p = e := (nI_eq (by omega) (by omega)).mp (y2.symm.trans q2)
    rw [pe, e4] at y5
    rw [y5]
    rcases i.N.fd (nI k) (V 3 f) with ⟨z, _⟩ | ⟨j, j1, _, j3, j4, _⟩
    · exact z
    · exact absurd j4 (nc j j1 j3)
  have ee : ¬ V 2 e = nI e := fun z => at'.2.2 (ab e e64 e0 z)
  obtain ⟨p, p64, p2, p1, _, _⟩ := i.M.ch e e64 e1 e2
  have pe : p ≠ e := fun z => ee (by rw [p2, z])
  have pne : ¬ V 2 p = nI e := fun z => by
    have pa := ab p p64 (by rw [p1]; exact i10) z
    obtain ⟨_, _, y2, _, y4, _⟩ := i.M.ch e e64 e1 e2
    have : _ = p := (nI_eq (by omega) (by omega)).mp (y2.symm.trans p2)
    subst this
    obtain ⟨_, b1, b2, _⟩ := i.N.fo y4
    rw [pa] at b2
    exact nI_m1 (by omega) b2.symm
  have c1 : uv V 6 e (V 6 e + 1) 1 = V 1 := uv_k _ _ _ _ _ (by decide)
  have c2 : uv V 6 e (V 6 e + 1) 2 = V 2 := uv_k _ _ _ _ _ (by decide)
  have c4 : uv V 6 e (V 6 e + 1) 4 = V 4 := uv_k _ _ _ _ _ (by decide)
  obtain ⟨V2, l1, l2, l3, l4⟩ := empty_loop (U := U) (H := H) (W := W) (n := n) (vol := vol) (t := t) (T := T) e64 (c := V 6 e) 64 0 (uv V 6 e (V 6 e + 1)) (by omega) (by rw [uv_back]; exact i) (fun f hf q1 q2 => by
    rw [c1] at q1
    rw [c2] at q2
    rw [c4]
    exact ab f hf q1 q2) (fun f hf => by omega)
  rw [c1, c2] at l3
  have em : gV_X1_empty V (nI e) = (if V2 5 e = 0 then uv V2 4 e (-1) else gV_X1_release (uv (uv V2 1 e 2) 2 e (-1)) (V2 2 e)) := by
    rw [← l1]
    show o_X1_empty V (nI e) = _
    unfold o_X1_empty
    rw [Inv.isE e64 e0, if_neg i10, ix_nI (by omega)]
  have v2e : V2 1 e = 1 := by rw [l3 e e64, if_neg (fun z => ee z.2), e1]
  have v2p : V2 1 p = 1 := by rw [l3 p p64, if_neg (fun z => pne z.2), p1]
  have v26 : ∀ j, V2 6 j = if j = e then V 6 e + 1 else V 6 j := fun j => by
    rw [l4 6 (by decide) (by decide)]
    by_cases z : j = e
    · rw [z, uv_s, if_pos rfl]
    · rw [uv_n _ _ _ _ _ _ (fun w => z w.2), if_neg z]
  have b6 : ∀ j, uv V2 6 e (V 6 e) 6 j = V 6 j := fun j => by
    by_cases z : j = e
    · rw [z, uv_s]
    · rw [uv_n _ _ _ _ _ _ (fun w => z w.2), v26, if_neg z]
  have bk : ∀ q : Fin 12, q ≠ 6 → uv V2 6 e (V 6 e) q = V2 q := fun q hq => uv_k _ _ _ _ _ hq
  have bV : ∀ q : Fin 12, q ≠ 1 → q ≠ 5 → uv V2 6 e (V 6 e) q = V q := fun q q1 q5 => by
    by_cases z : q = 6
    · rw [z]; funext j; exact b6 j
    · rw [bk q z, l4 q q1 q5, uv_k _ _ _ _ _ z]
  have k0 : ∀ q : Fin 6, q ≠ 4 → uv U 4 k 0 q = U q := fun q hq => uv_k _ _ _ _ _ hq
  have u4 : ∀ j, uv U 4 k 0 4 j = if j = k then 0 else U 4 j := fun j => by simp [uv]
  have B1 : ∀ f, f < 64 → uv V2 6 e (V 6 e) 1 f = if ¬ V 1 f = 0 ∧ V 2 f = nI e then 0 else V 1 f := fun f hf => by rw [bk 1 (by decide), l3 f hf]
  have Be : uv V2 6 e (V 6 e) 1 e = 1 := by rw [bk 1 (by decide), v2e]
  have hz := l2.hz e64 (by rw [Be]; exact i10)
  rw [bk 5 (by decide)] at hz
  have ec : ∀ f, f < 64 → ¬ uv V2 6 e (V 6 e) 1 f = 0 → ¬ uv V2 6 e (V 6 e) 2 f = nI e := fun f hf q z => by
    rw [bV 2 (by decide) (by decide)] at z
    rw [B1 f hf] at q
    by_cases w : V 1 f = 0
    · rw [if_neg (fun y => y.1 w)] at q; exact q w
    · rw [if_pos ⟨w, z⟩] at q; exact q rfl
  refine ⟨uv V2 6 e (V 6 e), l2, B1, bV, by rw [Be]; exact i10, ?_⟩
  by_cases h5 : V2 5 e = 0
  · have hc0 := (hz.mp h5).1
    have a4 : ∀ j, gV_X1_empty V (nI e) 4 j = if j = e then -1 else uv V2 6 e (V 6 e) 4 j := fun j => by
      rw [em, if_pos h5, bk 4 (by decide)]
      by_cases z : j = e
      · rw [z, uv_s, if_pos rfl]
      · rw [uv_n _ _ _ _ _ _ (fun w => z w.2), if_neg z]
    have a6 : ∀ j, gV_X1_empty V (nI e) 6 j = if j = e then uv V2 6 e (V 6 e) 6 e + 1 else uv V2 6 e (V 6 e) 6 j := fun j => by
      rw [em, if_pos h5, uv_k _ _ _ _ _ (by decide), v26, b6, b6]
    have kk : ∀ q : Fin 12, q ≠ 4 → q ≠ 6 → gV_X1_empty V (nI e) q = uv V2 6 e (V 6 e) q := fun q q4 q6 => by
      rw [em, if_pos h5, uv_k _ _ _ _ _ q4, bk q q6]
    refine ⟨?_, Or.inl ⟨hc0, a4, a6, kk⟩⟩
    exact l2.gone0 h30 e64 Be (by rw [bV 2 (by decide) (by decide)]; exact p2) p64 (by rw [bV 4 (by decide) (by decide)]; exact e4) kn nc ec (fun v hv => by rw [bV 10 (by decide) (by decide)]; exact vc v hv) u4 k0 hc0 a4 a6 kk
  · have hc0 : ¬ hc (uv V2 6 e (V 6 e)) H W e = 0 := fun z => h5 (hz.mpr ⟨z, rfl⟩)
    have v2 : V2 2 e = nI p := by rw [← p2, ← bV 2 (by decide) (by decide), bk 2 (by decide)]
    have m1 : ∀ j, uv (uv V2 1 e 2) 2 e (-1) 1 j = if j = e then 2 else V2 1 j := fun j => by
      rw [uv_k _ _ _ _ _ (by decide)]
      by_cases z : j = e
      · rw [z, uv_s, if_pos rfl]
      · rw [uv_n _ _ _ _ _ _ (fun w => z w.2), if_neg z]
    have a1 : ∀ j, gV_X1_empty V (nI e) 1 j = if j = e then 2 else uv V2 6 e (V 6 e) 1 j := fun j => by
      rw [em, if_neg h5, v2, re_1 _ p64, if_neg, m1, bk 1 (by decide)]
      rintro ⟨_, z, _⟩
      rw [m1, if_neg pe, v2p] at z
      exact absurd z (by decide)
    have a2 : ∀ j, gV_X1_empty V (nI e) 2 j = if j = e then -1 else uv V2 6 e (V 6 e) 2 j := fun j => by
      rw [em, if_neg h5, re_k _ _ _ (by decide) (by decide), bk 2 (by decide)]
      by_cases z : j = e
      · rw [z, uv_s, if_pos rfl]
      · rw [uv_n _ _ _ _ _ _ (fun w => z w.2), if_neg z, uv_k _ _ _ _ _ (by decide)]
    have a5 : ∀ j, gV_X1_empty V (nI e) 5 j = if j = p then uv V2 6 e (V 6 e) 5 p - 1 else uv V2 6 e (V 6 e) 5 j := fun j => by
      rw [em, if_neg h5, v2, re_5 _ p64, uv_k _ _ _ _ _ (by decide), uv_k _ _ _ _ _ (by decide), bk 5 (by decide)]
    have a6 : ∀ j, gV_X1_empty V (nI e) 6 j = if j = e then uv V2 6 e (V 6 e) 6 e + 1 else uv V2 6 e (V 6 e) 6 j := fun j => by
      rw [em, if_neg h5, re_k _ _ _ (by decide) (by decide), uv_k _ _ _ _ _ (by decide), uv_k _ _ _ _ _ (by decide), v26, b6, b6]
    have kk : ∀ q : Fin 12, q ≠ 1 → q ≠ 2 → q ≠ 5 → q ≠ 6 → gV_X1_empty V (nI e) q = uv V2 6 e (V 6 e) q := fun q q1 q2 q5 q6 => by
      rw [em, if_neg h5, re_k _ _ _ q1 q5, uv_k _ _ _ _ _ q2, uv_k _ _ _ _ _ q1, bk q q6]
    refine ⟨?_, Or.inr ⟨hc0, a1, a2, a6, kk⟩⟩
    exact l2.gone1 h30 e64 Be (by rw [bV 2 (by decide) (by decide)]; exact p2) p64 (by rw [bV 4 (by decide) (by decide)]; exact e4) kn nc ec (fun v hv => by rw [bV 10 (by decide) (by decide)]; exact vc v hv) u4 k0 hc0 a1 a2 a5 a6 kk

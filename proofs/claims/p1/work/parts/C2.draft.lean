/-! The draft of TREES, on both sides. -/
def DI (U : NodV) (S : RowV) (n vol : Nat) : Prop := (U 0 5 = nI n ∧ n ≤ 40 ∧ U 0 6 = nI vol ∧ vol ≤ 3) ∧ (∀ k, k < n → S (4 * k) = U 1 k ∧ S (4 * k + 2) = U 2 k ∧ (U 4 k = 1 ∧ S (4 * k + 1) = 0 ∨ U 4 k = 2 ∧ S (4 * k + 1) = 1)) ∧ (∀ k, k < n → (U 2 k = -1 ∧ U 3 k = 0 ∧ S (4 * k + 3) = 0 ∧ ∃ v, v < vol ∧ U 1 k = nI v ∧ U 5 v = nI k) ∨ ∃ p, p < k ∧ U 2 k = nI p ∧ U 4 p = 2 ∧ U 1 p = U 1 k ∧ Nm (U 3 k) (S (4 * k + 3))) ∧ (∀ v, v < vol → ∃ r, r < n ∧ U 5 v = nI r ∧ U 4 r = 2 ∧ U 2 r = -1 ∧ U 1 r = nI v) ∧ (∀ k j, k < n → j < n → ¬ U 2 k = -1 → U 2 k = U 2 j → U 3 k = U 3 j → k = j) ∧ (0 < vol → U 5 0 = nI 0) ∧ (∀ k, k < n → ∃ v, v < vol ∧ U 1 k = nI v)
theorem DI.kd {U : NodV} {S : RowV} {n vol : Nat} (h : DI U S n vol) {k : Nat} (hk : k < n) : ¬ U 4 k = 0 := by
  rcases (h.2.1 k hk).2.2 with z | z
  · rw [z.1]; decide
  · rw [z.1]; decide
theorem DI.ex {U : NodV} {S : RowV} {n vol : Nat} (h : DI U S n vol) {k : Nat} (hk : k < n) : q_X2_exists U (nI k) = 1 := by
  have n40 := h.1.2.1
  unfold q_X2_exists
  rw [if_neg (nI_pos (by omega)), if_neg (show ¬ (60 : Int32) ≤ nI k from nI_ge (b := 60) (by omega) (by decide)), h.1.1, if_neg (nI_ge hk (by omega)), ix_nI (by omega), if_neg (h.kd hk)]
theorem DI.evN {U : NodV} {S : RowV} {n vol : Nat} (h : DI U S n vol) : evN U = n := by
  have n40 := h.1.2.1
  show min (ix (U 0 5)) 60 = n
  rw [h.1.1, ix_nI (by omega)]
  omega
/-- the roots, the folders: what a world begins with -/
theorem DI.nod {U : NodV} {S : RowV} {n vol : Nat} (h : DI U S n vol) (h1 : 1 ≤ vol) : NodI U n vol := by
  obtain ⟨⟨a1, a2, a3, a4⟩, b, c, d, e, f, g⟩ := h
  refine ⟨a1, by omega, a3, ⟨h1, a4⟩, g, fun k hk => ?_, fun k hk z => ?_, d, fun k hk _ z => ?_, fun k j hk hj _ _ => e k j hk hj, ⟨fun k => k, fun k p hk hp _ z => ?_⟩, f (by omega), fun k hk z => ?_⟩
  · rcases (b k hk).2.2 with y | y
    · exact Or.inr (Or.inl y.1)
    · exact Or.inr (Or.inr y.1)
  · rcases c k hk with ⟨_, _, _, y⟩ | ⟨p, p1, p2, _⟩
    · exact y
    · exact absurd (p2.symm.trans z) (nI_m1 (by omega))
  · rcases c k hk with ⟨y, _⟩ | ⟨p, p1, p2, p3, p4, _⟩
    · exact absurd y z
    · exact ⟨p, by omega, p2, p3, p4⟩
  · rcases c k hk with ⟨y, _⟩ | ⟨q, q1, q2, _⟩
    · exact absurd (z.symm.trans y) (nI_m1 (by omega))
    · have : p = q := (nI_eq (by omega) (by omega)).mp (z.symm.trans q2)
      show p < k
      omega
  · rcases c k hk with ⟨y, _⟩ | ⟨q, q1, q2, _, _, q5⟩
    · exact absurd y z
    · obtain ⟨⟨a, x1, x2, x3⟩, _⟩ := q5.pos
      rw [x1]
      exact fun w => absurd ((nI_eq (b := 0) (by omega) (by decide)).mp w) (by omega)
theorem Nm.nz {x y : Int32} (h : Nm x y) : ¬ x = 0 := by
  obtain ⟨⟨a, x1, x2, x3⟩, _⟩ := h.pos
  rw [x1]
  exact fun w => absurd ((nI_eq (b := 0) (by omega) (by decide)).mp w) (by omega)
/-- one with that name in that folder, on both sides -/
theorem DI.find {U : NodV} {S : RowV} {n vol f : Nat} (h : DI U S n vol) (hf : f < n) {x y : Int32} (nm : Nm x y) : (q_X2_find U (nI f) x = -1 ∧ ¬ Twi S (nI f) y 0 n) ∨ (¬ q_X2_find U (nI f) x = -1 ∧ Twi S (nI f) y 0 n) := by
  have n40 := h.1.2.1
  have key : ∀ k, k < n → ((¬ U 4 k = 0 ∧ U 2 k = nI f ∧ U 3 k = x) ↔ (S (4 * k + 2) = nI f ∧ S (4 * k + 3) = y)) := by
    intro k hk
    rw [(h.2.1 k hk).2.1]
    rcases h.2.2.1 k hk with ⟨z1, _⟩ | ⟨p, _, _, _, _, z5⟩
    · constructor
      · rintro ⟨_, a, _⟩
        exact absurd (a.symm.trans z1) (nI_m1 (by omega))
      · rintro ⟨a, _⟩
        exact absurd (a.symm.trans z1) (nI_m1 (by omega))
    · have := z5.inj nm
      constructor
      · rintro ⟨_, a, b⟩
        exact ⟨a, this.mp b⟩
      · rintro ⟨a, b⟩
        exact ⟨h.kd hk, a, this.mpr b⟩
  unfold q_X2_find
  rw [h.evN]
  cases e : fst? (fun k => decide (¬ U 4 k = 0 ∧ U 2 k = nI f ∧ U 3 k = x)) 0 n with
  | none =>
    refine Or.inl ⟨rfl, ?_⟩
    rintro ⟨j, _, j2, j3⟩
    have := fst_none e j (Nat.zero_le _) (by omega)
    simp only [decide_eq_false_iff_not] at this
    exact this ((key j j2).mpr j3)
  | some j =>
    obtain ⟨_, j2, j3, _⟩ := fst_some e
    simp only [decide_eq_true_eq] at j3
    exact Or.inr ⟨nI_m1 (by omega), j, Nat.zero_le _, by omega, (key j (by omega)).mp j3⟩
/-- rows of a node put -/
theorem put_q {U : NodV} {n : Nat} (h : U 0 5 = nI n) (hn : n < 60) (a b c d : Int32) : gU_X2_put U a b c d = uv (uv (uv (uv (uv U 0 5 (nI (n + 1))) 1 n a) 2 n b) 3 n c) 4 n d ∧ q_X2_put U a b c d = nI n := by
  unfold gU_X2_put q_X2_put
  rw [h, if_neg (nI_pos (by omega)), if_neg (nI_pos (by omega)), if_pos (show nI n < 60 from nI_lt (b := 60) hn (by decide)), if_pos (show nI n < 60 from nI_lt (b := 60) hn (by decide)), ix_nI (by omega), nI_1]
  exact ⟨rfl, rfl⟩
/-- a node more in a folder -/
theorem DI.add {U : NodV} {S : RowV} {n vol f v : Nat} (h : DI U S n vol) (n40 : n < 40) (hf : f < n) (ff : U 4 f = 2) (fv : U 1 f = nI v) {x y : Int32} (nm : Nm x y) (nf : q_X2_find U (nI f) x = -1) : q_X2_addIn U (nI f) x 1 = nI n ∧ DI (gU_X2_addIn U (nI f) x 1) (dS S n (nI v) 0 (nI f) y) (n + 1) vol ∧ (∀ k, k < n → gU_X2_addIn U (nI f) x 1 1 k = U 1 k ∧ gU_X2_addIn U (nI f) x 1 2 k = U 2 k ∧ gU_X2_addIn U (nI f) x 1 4 k = U 4 k) ∧ gU_X2_addIn U (nI f) x 1 1 n = nI v ∧ gU_X2_addIn U (nI f) x 1 2 n = nI f := by
  have isf : q_X2_isFolder U (nI f) = 1 := by
    unfold q_X2_isFolder
    rw [h.ex hf, if_neg i10, ix_nI (by omega), if_pos ff]
  have e1 : q_X2_addIn U (nI f) x 1 = q_X2_put U (U 1 f) (nI f) x 1 := by
    unfold q_X2_addIn
    rw [isf, if_neg i10, ix_nI (by omega)]
  have e2 : gU_X2_addIn U (nI f) x 1 = gU_X2_put U (U 1 f) (nI f) x 1 := by
    unfold gU_X2_addIn
    rw [isf, if_neg i10, ix_nI (by omega)]
  obtain ⟨p1, p2⟩ := put_q h.1.1 (show n < 60 by omega) (U 1 f) (nI f) x 1
  rw [e1, e2, p1, p2, fv]
  have r05 : (uv (uv (uv (uv (uv U 0 5 (nI (n + 1))) 1 n (nI v)) 2 n (nI f)) 3 n x) 4 n 1) 0 5 = nI (n + 1) := by simp [uv]
  have r06 : (uv (uv (uv (uv (uv U 0 5 (nI (n + 1))) 1 n (nI v)) 2 n (nI f)) 3 n x) 4 n 1) 0 6 = U 0 6 := by simp [uv]
  have r1 : ∀ k, (uv (uv (uv (uv (uv U 0 5 (nI (n + 1))) 1 n (nI v)) 2 n (nI f)) 3 n x) 4 n 1) 1 k = if k = n then nI v else U 1 k := fun k => by simp [uv]
  have r2 : ∀ k, (uv (uv (uv (uv (uv U 0 5 (nI (n + 1))) 1 n (nI v)) 2 n (nI f)) 3 n x) 4 n 1) 2 k = if k = n then nI f else U 2 k := fun k => by simp [uv]
  have r3 : ∀ k, (uv (uv (uv (uv (uv U 0 5 (nI (n + 1))) 1 n (nI v)) 2 n (nI f)) 3 n x) 4 n 1) 3 k = if k = n then x else U 3 k := fun k => by simp [uv]
  have r4 : ∀ k, (uv (uv (uv (uv (uv U 0 5 (nI (n + 1))) 1 n (nI v)) 2 n (nI f)) 3 n x) 4 n 1) 4 k = if k = n then 1 else U 4 k := fun k => by simp [uv]
  have r5 : ∀ k, (uv (uv (uv (uv (uv U 0 5 (nI (n + 1))) 1 n (nI v)) 2 n (nI f)) 3 n x) 4 n 1) 5 k = U 5 k := fun k => by simp [uv]
  generalize (uv (uv (uv (uv (uv U 0 5 (nI (n + 1))) 1 n (nI v)) 2 n (nI f)) 3 n x) 4 n 1) = U' at r05 r06 r1 r2 r3 r4 r5
  have o1 : ∀ k, k < n → U' 1 k = U 1 k := fun k hk => by rw [r1, if_neg (by omega)]
  have o2 : ∀ k, k < n → U' 2 k = U 2 k := fun k hk => by rw [r2, if_neg (by omega)]
  have o3 : ∀ k, k < n → U' 3 k = U 3 k := fun k hk => by rw [r3, if_neg (by omega)]
  have o4 : ∀ k, k < n → U' 4 k = U 4 k := fun k hk => by rw [r4, if_neg (by omega)]
  have m1 : U' 1 n = nI v := by rw [r1, if_pos rfl]
  have m2 : U' 2 n = nI f := by rw [r2, if_pos rfl]
  have m3 : U' 3 n = x := by rw [r3, if_pos rfl]
  have m4 : U' 4 n = 1 := by rw [r4, if_pos rfl]
  refine ⟨rfl, ?_, fun k hk => ⟨o1 k hk, o2 k hk, o4 k hk⟩, m1, m2⟩
  obtain ⟨⟨a1, a2, a3, a4⟩, b, c, d, e, ff0, g⟩ := h
  have new : ∀ k, k < n → U 2 k = nI f → ¬ U 3 k = x := fun k hk z w => by
    have h' : DI U S n vol := ⟨⟨a1, a2, a3, a4⟩, b, c, d, e, ff0, g⟩
    unfold q_X2_find at nf
    rw [h'.evN] at nf
    cases q : fst? (fun k => decide (¬ U 4 k = 0 ∧ U 2 k = nI f ∧ U 3 k = x)) 0 n with
    | none =>
      have := fst_none q k (Nat.zero_le _) (by omega)
      simp only [decide_eq_false_iff_not] at this
      exact this ⟨h'.kd hk, z, w⟩
    | some j =>
      rw [q] at nf
      obtain ⟨_, j2, _⟩ := fst_some q
      exact nI_m1 (show j < 2 ^ 31 by omega) nf
  refine ⟨⟨r05, by omega, by rw [r06]; exact a3, a4⟩, fun k hk => ?_, fun k hk => ?_, fun w hw => ?_, fun k j hk hj z1 z2 z3 => ?_, fun z => by rw [r5]; exact ff0 z, fun k hk => ?_⟩
  · rcases Nat.lt_or_ge k n with z | z
    · rw [dS_o _ _ _ _ _ (by omega), dS_o _ _ _ _ _ (by omega), dS_o _ _ _ _ _ (by omega), o1 k z, o2 k z, o4 k z]
      exact b k z
    · have : k = n := by omega
      subst this
      rw [dS_0, dS_1, dS_2, m1, m2, m4]
      exact ⟨rfl, rfl, Or.inl ⟨rfl, rfl⟩⟩
  · rcases Nat.lt_or_ge k n with z | z
    · rw [dS_o _ _ _ _ _ (by omega), o2 k z, o3 k z, o1 k z]
      rcases c k z with ⟨y1, y2, y3, w, y4, y5, y6⟩ | ⟨p, y1, y2, y3, y4, y5⟩
      · exact Or.inl ⟨y1, y2, y3, w, y4, y5, by rw [r5]; exact y6⟩
      · exact Or.inr ⟨p, y1, y2, by rw [o4 p (by omega)]; exact y3, by rw [o1 p (by omega)]; exact y4, y5⟩
    · have : k = n := by omega
      subst this
      exact Or.inr ⟨f, hf, m2, by rw [o4 f hf]; exact ff, by rw [o1 f hf, m1]; exact fv, by rw [m3, dS_3]; exact nm⟩
  · obtain ⟨r, q1, q2, q3, q4, q5⟩ := d w hw
    exact ⟨r, by omega, by rw [r5]; exact q2, by rw [o4 r q1]; exact q3, by rw [o2 r q1]; exact q4, by rw [o1 r q1]; exact q5⟩
  · rcases Nat.lt_or_ge k n with y | y
    · rcases Nat.lt_or_ge j n with w | w
      · rw [o2 k y, o2 j w] at z2
        rw [o3 k y, o3 j w] at z3
        rw [o2 k y] at z1
        exact e k j y w z1 z2 z3
      · have : j = n := by omega
        subst this
        rw [o2 k y, m2] at z2
        rw [o3 k y, m3] at z3
        exact absurd z3 (new k y z2)
    · have : k = n := by omega
      subst this
      rcases Nat.lt_or_ge j k with w | w
      · rw [o2 j w, m2] at z2
        rw [o3 j w, m3] at z3
        exact absurd z3.symm (new j w z2.symm)
      · omega
  · rcases Nat.lt_or_ge k n with z | z
    · rw [o1 k z]; exact g k z
    · have : k = n := by omega
      subst this
      rw [m1, ← fv]
      exact g f hf
/-- a file becomes a folder -/
theorem DI.fold {U : NodV} {S : RowV} {n vol l : Nat} (h : DI U S n vol) (hl : l < n) : DI (gU_X2_becomeFolder U (nI l)) (sD S (4 * l + 1) 1) n vol ∧ (∀ k, gU_X2_becomeFolder U (nI l) 1 k = U 1 k ∧ gU_X2_becomeFolder U (nI l) 2 k = U 2 k) ∧ gU_X2_becomeFolder U (nI l) 4 l = 2 := by
  have n40 := h.1.2.1
  have e : gU_X2_becomeFolder U (nI l) = uv U 4 l 2 := by
    unfold gU_X2_becomeFolder
    rw [h.ex hl, if_neg i10, ix_nI (by omega)]
  rw [e]
  have r : ∀ q : Fin 6, q ≠ 4 → ∀ k, uv U 4 l 2 q k = U q k := fun q hq k => by rw [uv_k _ _ _ _ _ hq]
  have r4 : ∀ k, uv U 4 l 2 4 k = if k = l then 2 else U 4 k := fun k => uv_at _ _ _ _ _
  have s4 : ∀ k, U 4 k = 2 → uv U 4 l 2 4 k = 2 := fun k z => by
    rw [r4]
    split
    · rfl
    · exact z
  refine ⟨?_, fun k => ⟨r 1 (by decide) k, r 2 (by decide) k⟩, by rw [r4, if_pos rfl]⟩
  obtain ⟨⟨a1, a2, a3, a4⟩, b, c, d, e, f, g⟩ := h
  refine ⟨⟨by rw [r 0 (by decide)]; exact a1, a2, by rw [r 0 (by decide)]; exact a3, a4⟩, fun k hk => ?_, fun k hk => ?_, fun w hw => ?_, fun k j hk hj => ?_, fun z => by rw [r 5 (by decide)]; exact f z, fun k hk => by rw [r 1 (by decide)]; exact g k hk⟩
  · rw [sD_n _ _ (by omega), sD_n _ _ (by omega), r 1 (by decide), r 2 (by decide), r4]
    refine ⟨(b k hk).1, (b k hk).2.1, ?_⟩
    by_cases z : k = l
    · rw [if_pos z, z, sD_s]
      exact Or.inr ⟨rfl, rfl⟩
    · rw [if_neg z, sD_n _ _ (by omega)]
      exact (b k hk).2.2
  · rw [r 1 (by decide), r 2 (by decide), r 3 (by decide), sD_n _ _ (by omega)]
    rcases c k hk with ⟨y1, y2, y3, w, y4, y5, y6⟩ | ⟨p, y1, y2, y3, y4, y5⟩
    · exact Or.inl ⟨y1, y2, y3, w, y4, y5, by rw [r 5 (by decide)]; exact y6⟩
    · exact Or.inr ⟨p, y1, y2, s4 p y3, by rw [r 1 (by decide)]; exact y4, y5⟩
  · obtain ⟨q, q1, q2, q3, q4, q5⟩ := d w hw
    exact ⟨q, q1, by rw [r 5 (by decide)]; exact q2, s4 q q3, by rw [r 2 (by decide)]; exact q4, by rw [r 1 (by decide)]; exact q5⟩
  · rw [r 2 (by decide), r 2 (by decide), r 3 (by decide), r 3 (by decide)]
    exact e k j hk hj
/-- a VOLUME more -/
theorem DI.vol {U : NodV} {S : RowV} {n v : Nat} (h : DI U S n v) (n40 : n < 40) (v3 : v < 3) : q_X2_addVolume U = 1 ∧ DI (gU_X2_addVolume U) (dS S n (nI v) 1 (-1) 0) (n + 1) (v + 1) ∧ q_X2_rootOf (gU_X2_addVolume U) ((gU_X2_addVolume U) 0 6 - 1) = nI n ∧ gU_X2_addVolume U 4 n = 2 ∧ gU_X2_addVolume U 1 n = nI v := by
  obtain ⟨⟨a1, a2, a3, a4⟩, b, c, d, e, f, g⟩ := h
  have c0 : ¬ U 0 6 < 0 := by rw [a3]; exact nI_pos (by omega)
  have c3 : ¬ (3 : Int32) ≤ U 0 6 := by rw [a3]; exact nI_ge (b := 3) v3 (by decide)
  have c60 : U 0 5 < 60 := by rw [a1]; exact nI_lt (b := 60) (by omega) (by decide)
  have e0 : q_X2_addVolume U = 1 := by
    unfold q_X2_addVolume
    rw [if_neg c0, if_neg c3, if_pos c60]
  have e1 : gU_X2_addVolume U = uv (gU_X2_put (uv U 0 6 (nI (v + 1))) (nI v) (-1) 0 2) 5 v (q_X2_put (uv U 0 6 (nI (v + 1))) (nI v) (-1) 0 2) := by
    unfold gU_X2_addVolume
    rw [if_neg c0, if_neg c3, if_pos c60, a3, nI_1, ix_nI (by omega)]
  obtain ⟨p1, p2⟩ := put_q (U := uv U 0 6 (nI (v + 1))) (n := n) (by simp [uv]; exact a1) (by omega) (nI v) (-1) 0 2
  rw [p1, p2] at e1
  rw [e1]
  have r05 : (uv (uv (uv (uv (uv (uv (uv U 0 6 (nI (v + 1))) 0 5 (nI (n + 1))) 1 n (nI v)) 2 n (-1)) 3 n 0) 4 n 2) 5 v (nI n)) 0 5 = nI (n + 1) := by simp [uv]
  have r06 : (uv (uv (uv (uv (uv (uv (uv U 0 6 (nI (v + 1))) 0 5 (nI (n + 1))) 1 n (nI v)) 2 n (-1)) 3 n 0) 4 n 2) 5 v (nI n)) 0 6 = nI (v + 1) := by simp [uv]
  have r1 : ∀ k, (uv (uv (uv (uv (uv (uv (uv U 0 6 (nI (v + 1))) 0 5 (nI (n + 1))) 1 n (nI v)) 2 n (-1)) 3 n 0) 4 n 2) 5 v (nI n)) 1 k = if k = n then nI v else U 1 k := fun k => by simp [uv]
  have r2 : ∀ k, (uv (uv (uv (uv (uv (uv (uv U 0 6 (nI (v + 1))) 0 5 (nI (n + 1))) 1 n (nI v)) 2 n (-1)) 3 n 0) 4 n 2) 5 v (nI n)) 2 k = if k = n then -1 else U 2 k := fun k => by simp [uv]
  have r3 : ∀ k, (uv (uv (uv (uv (uv (uv (uv U 0 6 (nI (v + 1))) 0 5 (nI (n + 1))) 1 n (nI v)) 2 n (-1)) 3 n 0) 4 n 2) 5 v (nI n)) 3 k = if k = n then 0 else U 3 k := fun k => by simp [uv]
  have r4 : ∀ k, (uv (uv (uv (uv (uv (uv (uv U 0 6 (nI (v + 1))) 0 5 (nI (n + 1))) 1 n (nI v)) 2 n (-1)) 3 n 0) 4 n 2) 5 v (nI n)) 4 k = if k = n then 2 else U 4 k := fun k => by simp [uv]
  have r5 : ∀ k, (uv (uv (uv (uv (uv (uv (uv U 0 6 (nI (v + 1))) 0 5 (nI (n + 1))) 1 n (nI v)) 2 n (-1)) 3 n 0) 4 n 2) 5 v (nI n)) 5 k = if k = v then nI n else U 5 k := fun k => by simp [uv]
  generalize (uv (uv (uv (uv (uv (uv (uv U 0 6 (nI (v + 1))) 0 5 (nI (n + 1))) 1 n (nI v)) 2 n (-1)) 3 n 0) 4 n 2) 5 v (nI n)) = U' at r05 r06 r1 r2 r3 r4 r5
  have o1 : ∀ k, k < n → U' 1 k = U 1 k := fun k hk => by rw [r1, if_neg (by omega)]
  have o2 : ∀ k, k < n → U' 2 k = U 2 k := fun k hk => by rw [r2, if_neg (by omega)]
  have o3 : ∀ k, k < n → U' 3 k = U 3 k := fun k hk => by rw [r3, if_neg (by omega)]
  have o4 : ∀ k, k < n → U' 4 k = U 4 k := fun k hk => by rw [r4, if_neg (by omega)]
  have m1 : U' 1 n = nI v := by rw [r1, if_pos rfl]
  have m2 : U' 2 n = -1 := by rw [r2, if_pos rfl]
  have m3 : U' 3 n = 0 := by rw [r3, if_pos rfl]
  have m4 : U' 4 n = 2 := by rw [r4, if_pos rfl]
  have m5 : U' 5 v = nI n := by rw [r5, if_pos rfl]
  refine ⟨e0, ?_, ?_, m4, m1⟩
  · refine ⟨⟨r05, by omega, r06, by omega⟩, fun k hk => ?_, fun k hk => ?_, fun w hw => ?_, fun k j hk hj z1 z2 z3 => ?_, fun z => ?_, fun k hk => ?_⟩
    · rcases Nat.lt_or_ge k n with z | z
      · rw [dS_o _ _ _ _ _ (by omega), dS_o _ _ _ _ _ (by omega), dS_o _ _ _ _ _ (by omega), o1 k z, o2 k z, o4 k z]
        exact b k z
      · have : k = n := by omega
        subst this
        rw [dS_0, dS_1, dS_2, m1, m2, m4]
        exact ⟨rfl, rfl, Or.inr ⟨rfl, rfl⟩⟩
    · rcases Nat.lt_or_ge k n with z | z
      · rw [dS_o _ _ _ _ _ (by omega), o2 k z, o3 k z, o1 k z]
        rcases c k z with ⟨y1, y2, y3, w, y4, y5, y6⟩ | ⟨p, y1, y2, y3, y4, y5⟩
        · exact Or.inl ⟨y1, y2, y3, w, by omega, y5, by rw [r5, if_neg (by omega)]; exact y6⟩
        · exact Or.inr ⟨p, y1, y2, by rw [o4 p (by omega)]; exact y3, by rw [o1 p (by omega)]; exact y4, y5⟩
      · have : k = n := by omega
        subst this
        exact Or.inl ⟨m2, m3, dS_3 _ _ _ _ _ _, v, by omega, m1, m5⟩
    · rcases Nat.lt_or_ge w v with z | z
      · obtain ⟨r, q1, q2, q3, q4, q5⟩ := d w z
        exact ⟨r, by omega, by rw [r5, if_neg (by omega)]; exact q2, by rw [o4 r q1]; exact q3, by rw [o2 r q1]; exact q4, by rw [o1 r q1]; exact q5⟩
      · have : w = v := by omega
        subst this
        exact ⟨n, by omega, m5, m4, m2, m1⟩
    · rcases Nat.lt_or_ge k n with y | y
      · rcases Nat.lt_or_ge j n with w | w
        · rw [o2 k y, o2 j w] at z2
          rw [o3 k y, o3 j w] at z3
          rw [o2 k y] at z1
          exact e k j y w z1 z2 z3
        · have : j = n := by omega
          subst this
          rw [m2] at z2
          exact absurd z2 z1
      · have : k = n := by omega
        subst this
        exact absurd m2 z1
    · rw [r5]
      by_cases w : 0 = v
      · rw [if_pos w]
        have : n = 0 := by
          rcases Nat.eq_zero_or_pos n with y | y
          · exact y
          · obtain ⟨u, u1, _⟩ := g 0 y
            omega
        rw [this]
      · rw [if_neg w]; exact f (by omega)
    · rcases Nat.lt_or_ge k n with z | z
      · rw [o1 k z]
        obtain ⟨u, u1, u2⟩ := g k z
        exact ⟨u, by omega, u2⟩
      · have : k = n := by omega
        subst this
        exact ⟨v, by omega, m1⟩
  · rw [r06, nI_p]
    unfold q_X2_rootOf q_X2_hasVolume
    rw [if_neg (nI_pos (by omega)), if_neg (show ¬ (3 : Int32) ≤ nI v from nI_ge (b := 3) v3 (by decide)), r06, if_neg (nI_ge (by omega) (by omega)), if_neg i10, ix_nI (by omega), m5]
/-- how often one can go up -/
def Ch (U : NodV) : Nat → Nat → Prop
  | 0, _ => True
  | d + 1, f => ∃ p, p < f ∧ U 2 f = nI p ∧ Ch U d p
theorem Ch.cg {U U' : NodV} {n : Nat} (h : ∀ k, k < n → U' 2 k = U 2 k) : ∀ (d f : Nat), f < n → Ch U d f → Ch U' d f
  | 0, _, _, _ => trivial
  | d + 1, f, hf, ⟨p, p1, p2, p3⟩ => ⟨p, p1, by rw [h f hf]; exact p2, Ch.cg h d p (by omega) p3⟩

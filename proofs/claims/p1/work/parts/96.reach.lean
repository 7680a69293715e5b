/-! The child of a folder's entry, on both sides. -/
theorem cnt_inj {g : Nat → Nat} : ∀ (m : Nat) {P : Nat → Bool} {n k : Nat}, (∀ i, k ≤ i → i < k + n → P i = true → g i < m) → (∀ i j, k ≤ i → i < k + n → k ≤ j → j < k + n → P i = true → P j = true → g i = g j → i = j) → cnt P k n ≤ m
  | 0, P, n, k, h1, _ => by
    rw [cnt_zero (fun i a b => by
      cases q : P i with
      | false => rfl
      | true => exact absurd (h1 i a b q) (by omega))]
    exact Nat.le_refl _
  | m + 1, P, n, k, h1, h2 => by
    have ih := cnt_inj (g := g) m (P := fun i => P i && decide (g i ≠ m)) (n := n) (k := k) (fun i a b c => by
      simp only [Bool.and_eq_true, decide_eq_true_eq] at c
      have := h1 i a b c.1
      omega) (fun i j a b c d e f => by
      simp only [Bool.and_eq_true, decide_eq_true_eq] at e f
      exact h2 i j a b c d e.1 f.1)
    by_cases q : ∃ i, k ≤ i ∧ i < k + n ∧ P i = true ∧ g i = m
    · obtain ⟨i, a, b, c, d⟩ := q
      have one := cnt_one (P := P) (P' := fun i => P i && decide (g i ≠ m)) (e := i) a b (fun j a' b' c' => by
        cases pj : P j with
        | false => rfl
        | true =>
          show (true && decide (g j ≠ m)) = true
          simp only [Bool.true_and, decide_eq_true_eq]
          intro z
          exact c' (h2 j i a' b' a b pj c (z.trans d.symm)))
      rw [if_pos c] at one
      have : ∀ z : Bool, (if z = true then 1 else 0) ≤ 1 := fun z => by cases z <;> decide
      have := this (P i && decide (g i ≠ m))
      omega
    · have same : cnt P k n = cnt (fun i => P i && decide (g i ≠ m)) k n := cnt_cong (fun i a b => by
        cases pi : P i with
        | false => rfl
        | true =>
          show true = (true && decide (g i ≠ m))
          have : g i ≠ m := fun z => q ⟨i, a, b, pi, z⟩
          simp [this])
      omega
theorem Rel.eqc {wk : Option Nat} {U : NodV} {V : MemV} {H : OneV} {W : WkV} {D : RowV} {n : Nat} (r : Rel wk U V H W D n) (x : Int32) {nm ym : Int32} (hn : Nm nm ym) : chQ D x ym = f_X1_find V x nm := by
  unfold chQ f_X1_find
  rw [show (128 : Nat) = 64 + 64 from rfl, fst_ext (fun k h1 h2 => by
    rw [r.B.th0 (by omega) (fun z => by omega)]
    simp)]
  refine fst_cong (fun k _ hk => ?_)
  by_cases q : V 1 k = 0
  · rw [if_pos q, r.B.th0 (by omega) (fun _ => q)]
    simp
  · have en := r.B.en k (by omega) q
    rw [if_neg q, r.B.th1 (by omega) q, en.1]
    by_cases q2 : V 2 k = x
    · rw [if_pos q2]
      have iff := en.2.1.inj hn
      by_cases q3 : V 3 k = nm
      · rw [if_pos q3]
        simp [q2, iff.mp q3]
      · rw [if_neg q3]
        have : ¬ D (701 + 9 * k + 2) = ym := fun z => q3 (iff.mpr z)
        simp [q2, this]
    · rw [if_neg q2]
      simp [q2]
theorem Rel.eqn {wk : Option Nat} {U : NodV} {V : MemV} {H : OneV} {W : WkV} {D : RowV} {n vol : Nat} (r : Rel wk U V H W D n) (hN : NodI U n vol) (x : Int32) {nm ym : Int32} (hn : Nm nm ym) : oI (ndQ D n x ym) = q_X2_find U x nm := by
  unfold ndQ q_X2_find
  rw [hN.evn, fst_cong (fun k _ hk => ?_)]
  have nd := r.B.nd k (by omega)
  rw [nd.2.2.2.1, nd.2.1]
  have iff := nd.2.2.1.inj hn
  by_cases q : U 4 k = 0
  · simp [q]
  · by_cases q3 : U 3 k = nm
    · simp [q, q3, iff.mp q3]
    · have : ¬ D (401 + 5 * k + 3) = ym := fun z => q3 (iff.mpr z)
      simp [q, q3, this]
theorem Inv.isE {V : MemV} {p : Nat} (p64 : p < 64) (p1 : ¬ V 1 p = 0) : q_X1_isEntry V (nI p) = 1 := by
  unfold q_X1_isEntry
  rw [if_neg (n64 p64).1, if_neg (n64 p64).2.2, ix64 p64, if_neg p1]
theorem find_o {V : MemV} {p : Nat} (p64 : p < 64) (p1 : ¬ V 1 p = 0) (nm : Int32) : q_X1_find V (nI p) nm = oI (f_X1_find V (nI p) nm) := by
  unfold q_X1_find
  rw [Inv.isE p64 p1, if_neg i10]
  rfl
def roots (V : MemV) : Nat := cnt (fun k => decide (V 1 k = 1 ∧ V 2 k = -1)) 0 64
theorem Inv.roots3 {U : NodV} {V : MemV} {H : OneV} {W : WkV} {n vol t T : Nat} {x : Nat → Nat} (i : Inv U V H W n vol t T x) : roots V ≤ 3 := by
  unfold roots
  refine cnt_inj (g := fun k => if V 9 0 = nI k then 0 else if V 9 1 = nI k then 1 else 2) 3 (fun k _ _ _ => ?_) (fun a b _ ha _ hb pa pb e => ?_)
  · show (if V 9 0 = nI k then 0 else if V 9 1 = nI k then 1 else 2) < 3
    split
    · omega
    · split <;> omega
  · simp only [decide_eq_true_eq] at pa pb
    have f : ∀ c, c < 64 → V 1 c = 1 ∧ V 2 c = -1 → V 9 (if V 9 0 = nI c then 0 else if V 9 1 = nI c then 1 else 2) = nI c := by
      intro c hc pc
      obtain ⟨v, v3, hv⟩ := i.M.ro c hc pc.1 pc.2
      by_cases q0 : V 9 0 = nI c
      · rw [if_pos q0]; exact q0
      · rw [if_neg q0]
        by_cases q1 : V 9 1 = nI c
        · rw [if_pos q1]; exact q1
        · rw [if_neg q1]
          have : v = 2 := by
            rcases (show v = 0 ∨ v = 1 ∨ v = 2 by omega) with z | z | z
            · subst z; exact absurd hv q0
            · subst z; exact absurd hv q1
            · exact z
          subst this
          exact hv
    have fa := f a (by omega) pa
    have fb := f b (by omega) pb
    have e : (if V 9 0 = nI a then 0 else if V 9 1 = nI a then 1 else 2) = if V 9 0 = nI b then 0 else if V 9 1 = nI b then 1 else 2 := e
    rw [e] at fa
    exact (nI_eq (by omega) (by omega)).mp (fa.symm.trans fb)
theorem cnt_split {P Q R : Nat → Bool} : ∀ {n k : Nat}, (∀ i, k ≤ i → i < k + n → (if P i = true then 1 else 0) = (if Q i = true then 1 else 0) + (if R i = true then 1 else 0)) → cnt P k n = cnt Q k n + cnt R k n
  | 0, k, _ => rfl
  | n + 1, k, h => by
    unfold cnt
    rw [h k (Nat.le_refl _) (by omega), cnt_split (P := P) (Q := Q) (R := R) (fun i a b => h i (by omega) (by omega))]
    omega
theorem Inv.nc_b {U : NodV} {V : MemV} {H : OneV} {W : WkV} {n vol t T : Nat} {x : Nat → Nat} (i : Inv U V H W n vol t T x) : nc V = c_X1_howManyButRoots V + roots V := by
  unfold nc c_X1_howManyButRoots roots
  refine cnt_split (fun k _ hk => ?_)
  rcases i.M.st k (by omega) with s | s | s
  · simp [s]
  · by_cases q : V 2 k = -1
    · simp [s, q]
    · simp [s, q]
  · simp [s, (i.M.go k (by omega) s).1]
theorem Rel.many {wk : Option Nat} {U : NodV} {V : MemV} {H : OneV} {W : WkV} {D : RowV} {n vol t T : Nat} {x : Nat → Nat} (r : Rel wk U V H W D n) (i : Inv U V H W n vol t T x) : cnt (emB D (decide (¬ (0 : Int32) = 0))) 0 128 = c_X1_howManyButRoots V := by
  unfold c_X1_howManyButRoots
  rw [show (128 : Nat) = 64 + 64 from rfl, cnt_add, cnt_zero (k := 0 + 64) (fun k h1 h2 => by
    unfold emB thQ
    rw [r.B.th0 (by omega) (fun z => by omega)]
    simp), Nat.add_zero]
  refine cnt_cong (fun k _ hk => ?_)
  unfold emB thQ
  rcases i.M.st k (by omega) with s | s | s
  · rw [r.B.th0 (by omega) (fun _ => s)]
    simp [s]
  · rw [r.B.th1 (by omega) (by rw [s]; exact i10)]
    by_cases q : V 2 k = -1
    · obtain ⟨v, v3, v4⟩ := i.M.ro k (by omega) s q
      rw [(r.eqr (nI k)).mpr ⟨v, v3, v4⟩]
      simp [s, q]
    · have nr : ¬ rtB D (nI k) = true := by
        rw [r.eqr]
        rintro ⟨v, v3, v4⟩
        rcases i.M.rt v v3 with ⟨y, _⟩ | ⟨_, f, q64, y1, y2, y3, _⟩
        · rw [y] at v4
          exact nI_m1 (show k < 2 ^ 31 by omega) v4.symm
        · have : f = k := (nI_eq (by omega) (by omega)).mp (y1.symm.trans v4)
          rw [this] at y3
          exact q y3
      simp [s, q, nr]
  · rw [r.B.th1 (by omega) (by rw [s]; exact i20)]
    have nr : ¬ rtB D (nI k) = true := by
      rw [r.eqr]
      rintro ⟨v, v3, v4⟩
      rcases i.M.rt v v3 with ⟨y, _⟩ | ⟨_, f, q64, y1, y2, y3, _⟩
      · rw [y] at v4
        exact nI_m1 (show k < 2 ^ 31 by omega) v4.symm
      · have : f = k := (nI_eq (by omega) (by omega)).mp (y1.symm.trans v4)
        rw [this, s] at y2
        exact absurd y2 (by decide)
    simp [s, nr]
/-- an absence is held by none -/
theorem Inv.ab {U : NodV} {V : MemV} {H : OneV} {W : WkV} {n vol t T : Nat} {x : Nat → Nat} (i : Inv U V H W n vol t T x) {e : Nat} (he : e < 64) (h4 : V 4 e = -1) : hc V H W e = 0 := by
  have n60 := i.N.n60
  have nf : ¬ ∃ k, k < n ∧ V 4 e = nI k := fun ⟨k, k1, k2⟩ => by
    rw [h4] at k2
    exact nI_m1 (show k < 2 ^ 31 by omega) k2.symm
  have h1 : hcC V e = 0 := by
    refine cnt_zero (fun k _ hk => ?_)
    simp only [decide_eq_false_iff_not]
    rintro ⟨q1, q2⟩
    rcases i.M.st k (by omega) with z | z | z
    · exact q1 z
    · obtain ⟨p, p64, z1, z2, z3, _⟩ := i.M.ch k (by omega) z (by rw [q2]; exact nI_m1 (by omega))
      have : p = e := (nI_eq (by omega) (by omega)).mp (z1.symm.trans q2)
      rw [this] at z3
      obtain ⟨f, f1, f2, _⟩ := i.N.fo z3
      exact nf ⟨f, f1, f2⟩
    · rw [(i.M.go k (by omega) z).1] at q2
      exact absurd q2.symm (nI_m1 (by omega))
  have h2 : hcV V e = 0 := by
    refine cnt_zero (fun v _ hv => ?_)
    simp only [decide_eq_false_iff_not]
    intro q
    obtain ⟨f, f1, f2, _⟩ := i.N.fo (i.M.ok (by omega) he q).2.2.2.2
    exact nf ⟨f, f1, f2⟩
  have h3 : hcH H e = 0 := by
    refine cnt_zero (fun k _ hk => ?_)
    simp only [decide_eq_false_iff_not]
    intro q
    rcases i.H k (by omega) with z | ⟨f, f64, z1, z2, z3⟩
    · rw [z] at q
      exact absurd q.symm (nI_m1 (by omega))
    · have : f = e := (nI_eq (by omega) (by omega)).mp (z1.symm.trans q)
      rw [this] at z3
      exact z3 h4
  have h5 : hcW W e = 0 := by
    refine sm_zero (fun k _ hk => ?_)
    unfold hcK
    by_cases q : bz ((W k).1 0 5) = 0 ∨ bz ((W k).1 0 6) = 0
    · rw [if_pos q]
    · rw [if_neg q]
      obtain ⟨m, d, l, r, hr, hw⟩ := i.W k (by omega) (fun z => q (Or.inl z))
      have := hw.md
      have := hw.dl
      have := hw.l12
      rw [hw.m, ix_nI (by omega)]
      refine cnt_zero (fun j _ hj => ?_)
      simp only [decide_eq_false_iff_not]
      intro z
      obtain ⟨f, f64, g1, _, g2⟩ := (hw.wy j (by omega)).ex
      have : f = e := (nI_eq (by omega) (by omega)).mp (g1.symm.trans z)
      rw [this] at g2
      exact (g2 (fun z => q (Or.inr z))).2 h4
  unfold hc
  omega
/-- where nothing but one entry is free, there are 61 at most -/
theorem Inv.few {U : NodV} {V : MemV} {H : OneV} {W : WkV} {n vol t T : Nat} {x : Nat → Nat} (i : Inv U V H W n vol t T x) (hx : ∀ e, e < 64 → ¬ x e = 0 → ¬ V 4 e = -1) {b : Nat} (hb : b < 64) (hf : ∀ j, j < 64 → ¬ Fre V (nI b) j) : nc V ≤ 61 := by
  have n60 := i.N.n60
  have nod : ∀ k, k < 64 → ¬ V 1 k = 0 → k ≠ b → ∃ j, j < n ∧ V 4 k = nI j := by
    intro k hk h1 hne
    rcases i.M.st k hk with z | z | z
    · exact absurd z h1
    · by_cases q : V 2 k = -1
      · obtain ⟨v, rr, _, _, _, r1, r2, _⟩ := i.M.rn i.N hk z q
        exact ⟨rr, r1, r2⟩
      · have h5 : ¬ V 5 k = 0 := fun y => hf k hk ⟨z, y, q, fun w => hne ((nI_eq (by omega) (by omega)).mp w)⟩
        have h4 : ¬ V 4 k = -1 := fun y => by
          have := i.ab hk y
          have hxk : x k = 0 := by
            by_cases w : x k = 0
            · exact w
            · exact absurd y (hx k hk w)
          exact h5 ((i.hz hk h1).mpr ⟨this, hxk⟩)
        obtain ⟨p, _, _, _, _, p5⟩ := i.M.ch k hk z q
        rcases i.N.fd (V 4 p) (V 3 k) with ⟨y, _⟩ | ⟨j, j1, j2, _⟩
        · rw [p5, y] at h4
          exact absurd rfl h4
        · exact ⟨j, j1, p5.trans j2⟩
    · obtain ⟨_, j, j1, j2, _⟩ := i.M.go k hk z
      exact ⟨j, j1, j2⟩
  have one := cnt_one (P := fun k => decide (¬ V 1 k = 0)) (P' := fun k => decide (¬ V 1 k = 0 ∧ k ≠ b)) (e := b) (n := 64) (k := 0) (Nat.zero_le _) (by omega) (fun j _ _ q => by simp [q])
  have le := cnt_inj (g := fun k => ix (V 4 k)) n (P := fun k => decide (¬ V 1 k = 0 ∧ k ≠ b)) (n := 64) (k := 0) (fun k _ hk pk => by
    simp only [decide_eq_true_eq] at pk
    obtain ⟨j, j1, j2⟩ := nod k (by omega) pk.1 pk.2
    show ix (V 4 k) < n
    rw [j2, ix_nI (by omega)]
    exact j1) (fun a c _ ha _ hc pa pc e => by
    simp only [decide_eq_true_eq] at pa pc
    obtain ⟨j, j1, j2⟩ := nod a (by omega) pa.1 pa.2
    obtain ⟨k, k1, k2⟩ := nod c (by omega) pc.1 pc.2
    have e : ix (V 4 a) = ix (V 4 c) := e
    rw [j2, k2, ix_nI (by omega), ix_nI (by omega)] at e
    exact i.M.nd a c (by omega) (by omega) pa.1 pc.1 (by rw [j2]; exact nI_m1 (by omega)) (by rw [j2, k2, e]))
  have b1 : (if decide (¬ V 1 b = 0) = true then 1 else 0) ≤ 1 := by split <;> omega
  have b0 : (if decide (¬ V 1 b = 0 ∧ b ≠ b) = true then 1 else 0) = 0 := by simp
  rw [b0, Nat.add_zero] at one
  unfold nc
  omega
theorem lu_ex {V : MemV} (h : nc V ≤ 63) : ∃ e, f_X1_leastUnused V = some e := by
  cases q : f_X1_leastUnused V with
  | some e => exact ⟨e, rfl⟩
  | none =>
    have := fst_none q
    have all : nc V = 64 := by
      unfold nc
      have c := cnt_split (P := fun _ => true) (Q := fun k => decide (¬ V 1 k = 0)) (R := fun k => if V 1 k = 0 then true else false) (n := 64) (k := 0) (fun k _ _ => by
        by_cases z : V 1 k = 0
        · simp [z]
        · simp [z])
      rw [cnt_zero (P := fun k => if V 1 k = 0 then true else false) (fun k a b => this k a b), Nat.add_zero] at c
      rw [← c]
      decide
    omega

/-! A world of the class beside the row of the reference. The definitions are written by gen/rel.py. -/
/-- nodes, entries, handles -/
def RelB (U : NodV) (V : MemV) (H : OneV) (D : RowV) (n : Nat) : Prop := (D 0 = V 0 12) ∧ (D 1 = V 0 13) ∧ (D 2 = V 0 14) ∧ (D 3 = V 0 11) ∧ (D 4 = U 0 5) ∧ (∀ v, v < 3 → D (5 + v) = V 9 v) ∧ (∀ v, v < 3 → D (8 + v) = V 10 v) ∧ (∀ k, k < 6 → D (11 + k) = H 0 k) ∧ (∀ k, k < n → D (401 + 5 * k + 0) = U 1 k ∧ D (401 + 5 * k + 2) = U 2 k ∧ NmZ (U 3 k) (D (401 + 5 * k + 3)) ∧ D (401 + 5 * k + 4) = (if U 4 k = 0 then 0 else 1) ∧ (¬ U 4 k = 0 → D (401 + 5 * k + 1) = if U 4 k = 2 then 1 else 0)) ∧ (∀ e, e < 128 → D (701 + 9 * e + 0) = if e < 64 ∧ ¬ V 1 e = 0 then 1 else 0) ∧ (∀ e, e < 64 → ¬ V 1 e = 0 → D (701 + 9 * e + 1) = V 2 e ∧ NmZ (V 3 e) (D (701 + 9 * e + 2)) ∧ D (701 + 9 * e + 3) = V 4 e ∧ D (701 + 9 * e + 4) = V 6 e ∧ D (701 + 9 * e + 5) = V 7 e ∧ D (701 + 9 * e + 6) = V 8 e ∧ D (701 + 9 * e + 7) = q_X1_coveringVolume V (nI e) ∧ D (701 + 9 * e + 8) = if V 1 e = 2 then 1 else 0)
theorem RelB.tk {U : NodV} {V : MemV} {H : OneV} {D : RowV} {n : Nat} (h : RelB U V H D n) : D 0 = V 0 12 := h.1
theorem RelB.lo {U : NodV} {V : MemV} {H : OneV} {D : RowV} {n : Nat} (h : RelB U V H D n) : D 1 = V 0 13 := h.2.1
theorem RelB.tr {U : NodV} {V : MemV} {H : OneV} {D : RowV} {n : Nat} (h : RelB U V H D n) : D 2 = V 0 14 := h.2.2.1
theorem RelB.rm {U : NodV} {V : MemV} {H : OneV} {D : RowV} {n : Nat} (h : RelB U V H D n) : D 3 = V 0 11 := h.2.2.2.1
theorem RelB.ev {U : NodV} {V : MemV} {H : OneV} {D : RowV} {n : Nat} (h : RelB U V H D n) : D 4 = U 0 5 := h.2.2.2.2.1
theorem RelB.rt {U : NodV} {V : MemV} {H : OneV} {D : RowV} {n : Nat} (h : RelB U V H D n) : ∀ v, v < 3 → D (5 + v) = V 9 v := h.2.2.2.2.2.1
theorem RelB.ov {U : NodV} {V : MemV} {H : OneV} {D : RowV} {n : Nat} (h : RelB U V H D n) : ∀ v, v < 3 → D (8 + v) = V 10 v := h.2.2.2.2.2.2.1
theorem RelB.ha {U : NodV} {V : MemV} {H : OneV} {D : RowV} {n : Nat} (h : RelB U V H D n) : ∀ k, k < 6 → D (11 + k) = H 0 k := h.2.2.2.2.2.2.2.1
theorem RelB.nd {U : NodV} {V : MemV} {H : OneV} {D : RowV} {n : Nat} (h : RelB U V H D n) : ∀ k, k < n → D (401 + 5 * k + 0) = U 1 k ∧ D (401 + 5 * k + 2) = U 2 k ∧ NmZ (U 3 k) (D (401 + 5 * k + 3)) ∧ D (401 + 5 * k + 4) = (if U 4 k = 0 then 0 else 1) ∧ (¬ U 4 k = 0 → D (401 + 5 * k + 1) = if U 4 k = 2 then 1 else 0) := h.2.2.2.2.2.2.2.2.1
theorem RelB.th {U : NodV} {V : MemV} {H : OneV} {D : RowV} {n : Nat} (h : RelB U V H D n) : ∀ e, e < 128 → D (701 + 9 * e + 0) = if e < 64 ∧ ¬ V 1 e = 0 then 1 else 0 := h.2.2.2.2.2.2.2.2.2.1
theorem RelB.en {U : NodV} {V : MemV} {H : OneV} {D : RowV} {n : Nat} (h : RelB U V H D n) : ∀ e, e < 64 → ¬ V 1 e = 0 → D (701 + 9 * e + 1) = V 2 e ∧ NmZ (V 3 e) (D (701 + 9 * e + 2)) ∧ D (701 + 9 * e + 3) = V 4 e ∧ D (701 + 9 * e + 4) = V 6 e ∧ D (701 + 9 * e + 5) = V 7 e ∧ D (701 + 9 * e + 6) = V 8 e ∧ D (701 + 9 * e + 7) = q_X1_coveringVolume V (nI e) ∧ D (701 + 9 * e + 8) = if V 1 e = 2 then 1 else 0 := h.2.2.2.2.2.2.2.2.2.2
/-- a walker, but for the length of its way -/
def RelK (w : OneV × RouV × TriV) (D : RowV) (k : Nat) : Prop := (D (17 + 96 * k + 0) = bz (w.1 0 5)) ∧ (¬ bz (w.1 0 5) = 0 → D (17 + 96 * k + 1) = bz (w.1 0 6) ∧ D (17 + 96 * k + 2) = w.1 0 7 ∧ D (17 + 96 * k + 3) = w.1 0 8 ∧ D (17 + 96 * k + 4) = w.2.1 0 1) ∧ (¬ bz (w.1 0 5) = 0 → ∀ j, j < 12 → j < ix (w.2.1 0 1) → NmS (w.2.1 1 j) (D (17 + 96 * k + (6 + j)))) ∧ (¬ bz (w.1 0 5) = 0 → ∀ j, j < 25 → j < ix (w.1 0 4) → D (17 + 96 * k + (18 + 3 * j)) = w.2.2 0 j ∧ D (17 + 96 * k + (18 + 3 * j + 1)) = w.2.2 1 j ∧ D (17 + 96 * k + (18 + 3 * j + 2)) = w.2.2 2 j)
theorem RelK.ws {w : OneV × RouV × TriV} {D : RowV} {k : Nat} (h : RelK w D k) : D (17 + 96 * k + 0) = bz (w.1 0 5) := h.1
theorem RelK.un {w : OneV × RouV × TriV} {D : RowV} {k : Nat} (h : RelK w D k) : ¬ bz (w.1 0 5) = 0 → D (17 + 96 * k + 1) = bz (w.1 0 6) ∧ D (17 + 96 * k + 2) = w.1 0 7 ∧ D (17 + 96 * k + 3) = w.1 0 8 ∧ D (17 + 96 * k + 4) = w.2.1 0 1 := h.2.1
theorem RelK.sp {w : OneV × RouV × TriV} {D : RowV} {k : Nat} (h : RelK w D k) : ¬ bz (w.1 0 5) = 0 → ∀ j, j < 12 → j < ix (w.2.1 0 1) → NmS (w.2.1 1 j) (D (17 + 96 * k + (6 + j))) := h.2.2.1
theorem RelK.wy {w : OneV × RouV × TriV} {D : RowV} {k : Nat} (h : RelK w D k) : ¬ bz (w.1 0 5) = 0 → ∀ j, j < 25 → j < ix (w.1 0 4) → D (17 + 96 * k + (18 + 3 * j)) = w.2.2 0 j ∧ D (17 + 96 * k + (18 + 3 * j + 1)) = w.2.2 1 j ∧ D (17 + 96 * k + (18 + 3 * j + 2)) = w.2.2 2 j := h.2.2.2
/-- the walker that goes: what the latest step came to stands in the row already -/
def RelT (w : OneV × RouV × TriV) (V : MemV) (D : RowV) (k m tl : Nat) : Prop := ¬ bz (w.1 0 5) = 0 ∧ w.1 0 4 = nI m ∧ V 0 16 = nI tl ∧ tl ≤ 2 ∧ m + tl ≤ 25 ∧ D (17 + 96 * k + 5) = nI (m + tl) ∧ ∀ j, j < tl → ∃ e, e < 64 ∧ V 11 j = nI e ∧ D (17 + 96 * k + (18 + 3 * (m + j))) = nI e ∧ D (17 + 96 * k + (18 + 3 * (m + j) + 1)) = V 8 e ∧ D (17 + 96 * k + (18 + 3 * (m + j) + 2)) = V 6 e
/-- all -/
def Rel (wk : Option Nat) (U : NodV) (V : MemV) (H : OneV) (W : WkV) (D : RowV) (n : Nat) : Prop := (RelB U V H D n) ∧ (∀ k, k < 4 → RelK (W k) D k) ∧ (∀ k, k < 4 → ¬ bz ((W k).1 0 5) = 0 → wk ≠ some k → D (17 + 96 * k + 5) = (W k).1 0 4 ∧ ∃ r, r ≤ 2 ∧ (W k).1 0 7 = nI r) ∧ (∀ k, wk = some k → k < 4 ∧ ∃ m tl, RelT (W k) V D k m tl)
theorem Rel.B {wk : Option Nat} {U : NodV} {V : MemV} {H : OneV} {W : WkV} {D : RowV} {n : Nat} (h : Rel wk U V H W D n) : RelB U V H D n := h.1
theorem Rel.K {wk : Option Nat} {U : NodV} {V : MemV} {H : OneV} {W : WkV} {D : RowV} {n : Nat} (h : Rel wk U V H W D n) : ∀ k, k < 4 → RelK (W k) D k := h.2.1
theorem Rel.M {wk : Option Nat} {U : NodV} {V : MemV} {H : OneV} {W : WkV} {D : RowV} {n : Nat} (h : Rel wk U V H W D n) : ∀ k, k < 4 → ¬ bz ((W k).1 0 5) = 0 → wk ≠ some k → D (17 + 96 * k + 5) = (W k).1 0 4 := fun k a b c => (h.2.2.1 k a b c).1
theorem Rel.R2 {wk : Option Nat} {U : NodV} {V : MemV} {H : OneV} {W : WkV} {D : RowV} {n : Nat} (h : Rel wk U V H W D n) : ∀ k, k < 4 → ¬ bz ((W k).1 0 5) = 0 → wk ≠ some k → ∃ r, r ≤ 2 ∧ (W k).1 0 7 = nI r := fun k a b c => (h.2.2.1 k a b c).2
theorem Rel.T {wk : Option Nat} {U : NodV} {V : MemV} {H : OneV} {W : WkV} {D : RowV} {n : Nat} (h : Rel wk U V H W D n) : ∀ k, wk = some k → k < 4 ∧ ∃ m tl, RelT (W k) V D k m tl := h.2.2.2
def pnd (wk : Option Nat) (V : MemV) (W : WkV) (e : Nat) : Nat := match wk with
  | none => 0
  | some k => if bz ((W k).1 0 6) = 0 then 0 else cnt (fun j => decide (V 11 j = nI e)) 0 (ix (V 0 16))
theorem Rel.ch {wk : Option Nat} {U : NodV} {V : MemV} {H : OneV} {W : WkV} {D : RowV} {n vol t T : Nat} {x : Nat → Nat} (r : Rel wk U V H W D n) (i : Inv U V H W n vol t T x) : CHd D ∧ CHw D ∧ CEd D := by
  refine ⟨fun k hk => ?_, fun w hw q0 q1 => ?_, fun k hk q0 => ?_⟩
  · rw [r.B.ha k hk]
    rcases i.H k hk with z | ⟨e, e1, e2, _⟩
    · exact Or.inl z
    · exact Or.inr ⟨e, by omega, e2⟩
  · have hk := r.K w hw
    rw [hk.ws] at q0
    rw [(hk.un q0).1] at q1
    obtain ⟨m, d, l, rr, _, hw2⟩ := i.W w hw q0
    have m25 : m ≤ 25 := by
      have := hw2.md
      have := hw2.dl
      have := hw2.l12
      omega
    have old : ∀ k, k < m → ∃ e, e < 128 ∧ D (17 + 96 * w + (18 + 3 * k)) = nI e := by
      intro k hk2
      obtain ⟨e, e1, e2, _⟩ := (hw2.wy k hk2).ex
      exact ⟨e, by omega, by rw [((hk.wy q0) k (by omega) (by rw [hw2.m, ix_nI (by omega)]; exact hk2)).1]; exact e2⟩
    by_cases z : wk = some w
    · obtain ⟨_, m', tl, t1, t2, t3, t4, t5, t6, t7⟩ := r.T w z
      have mm : m' = m := (nI_eq (by omega) (by omega)).mp (t2.symm.trans hw2.m)
      subst mm
      refine ⟨m' + tl, t5, t6, fun k hk2 => ?_⟩
      by_cases c : k < m'
      · exact old k c
      · obtain ⟨e, e1, e2, e3, _⟩ := t7 (k - m') (by omega)
        rw [show m' + (k - m') = k by omega] at e3
        exact ⟨e, by omega, e3⟩
    · exact ⟨m, m25, by rw [r.M w hw q0 z]; exact hw2.m, old⟩
  · rw [r.B.th k hk] at q0
    by_cases c : k < 64 ∧ ¬ V 1 k = 0
    · rw [(r.B.en k c.1 c.2).1]
      rcases i.M.st k c.1 with z | z | z
      · exact absurd z c.2
      · by_cases y : V 2 k = -1
        · exact Or.inl y
        · obtain ⟨p, p1, p2, _⟩ := i.M.ch k c.1 z y
          exact Or.inr ⟨p, by omega, p2⟩
      · exact Or.inl (i.M.go k c.1 z).1
    · rw [if_neg c] at q0
      exact absurd rfl q0
theorem Rel.eqe {wk : Option Nat} {U : NodV} {V : MemV} {H : OneV} {W : WkV} {D : RowV} {n vol t T : Nat} {x : Nat → Nat} (r : Rel wk U V H W D n) (i : Inv U V H W n vol t T x) {e : Nat} (he : e < 64) (h1 : ¬ V 1 e = 0) : eF D e = hcC V e + hcV V e := by
  unfold eF hcC
  have c1 : cnt (fun k => decide (¬ D (701 + 9 * k + 0) = 0 ∧ D (701 + 9 * k + 1) = nI e)) 0 128 = cnt (fun k => decide (¬ V 1 k = 0 ∧ V 2 k = nI e)) 0 64 := by
    rw [show (128 : Nat) = 64 + 64 from rfl, cnt_add, cnt_zero (k := 0 + 64) (fun k h1 h2 => by
      rw [r.B.th k (by omega), if_neg (by omega)]
      simp)]
    rw [Nat.add_zero]
    refine cnt_cong (fun k _ hk => ?_)
    rw [r.B.th k (by omega)]
    by_cases q : V 1 k = 0
    · simp [q]
    · rw [if_pos ⟨by omega, q⟩, (r.B.en k (by omega) q).1]
      simp [q]
  have t1 : (if e < 64 ∧ ¬ V 1 e = 0 then (1 : Int32) else 0) = 1 := if_pos ⟨he, h1⟩
  rw [c1, r.B.th e (by omega), t1, (r.B.en e he h1).2.2.2.2.2.2.1]
  have key : (if ¬ (1 : Int32) = 0 ∧ ¬ q_X1_coveringVolume V (nI e) = -1 then 1 else 0) = hcV V e := by
    have ne : ¬ nI e = -1 := nI_m1 (by omega)
    unfold q_X1_coveringVolume ql_X1_coveringVolume hcV
    have fe : f_X1_coveringVolume V (nI e) = fst? (fun v => decide (V 10 v = nI e)) 0 3 := by
      unfold f_X1_coveringVolume
      refine fst_cong (fun k _ _ => ?_)
      rw [if_neg ne]
      by_cases z : V 10 k = nI e
      · simp [z]
      · simp [z]
    rw [fe]
    cases q : fst? (fun v => decide (V 10 v = nI e)) 0 3 with
    | none =>
      have := fst_none q
      rw [cnt_zero (fun i a b => this i a b), if_neg (fun z => z.2 rfl)]
    | some v =>
      obtain ⟨_, v3, v4, _⟩ := fst_some q
      have v4 : V 10 v = nI e := by simpa using v4
      rw [if_pos ⟨i10, nI_m1 (by omega)⟩, ← sm_cnt, sm_at (e := v) (Nat.zero_le _) v3 (fun k _ hk hne => if_neg (by
        simp only [decide_eq_true_eq]
        intro z
        exact hne (i.M.oi k v (by omega) (by omega) (by rw [z]; exact ne) (z.trans v4.symm))))]
      simp [v4]
  rw [key]
theorem cnt_shift (P : Nat → Bool) (j : Nat) : ∀ n k, cnt P (j + k) n = cnt (fun i => P (j + i)) k n
  | 0, k => rfl
  | n + 1, k => by
    unfold cnt
    rw [show j + k + 1 = j + (k + 1) by omega, cnt_shift P j n (k + 1)]
theorem Rel.eqw {wk : Option Nat} {U : NodV} {V : MemV} {H : OneV} {W : WkV} {D : RowV} {n vol t T : Nat} {x : Nat → Nat} (r : Rel wk U V H W D n) (i : Inv U V H W n vol t T x) (e : Nat) {w : Nat} (hw : w < 4) : wF D w e = hcK (W w) e + if wk = some w then pnd wk V W e else 0 := by
  have hk := r.K w hw
  unfold wF hcK
  rw [hk.ws]
  by_cases q0 : bz ((W w).1 0 5) = 0
  · rw [if_pos (Or.inl q0), if_pos (Or.inl q0)]
    by_cases z : wk = some w
    · exact absurd q0 (by obtain ⟨_, m, tl, t1, _⟩ := r.T w z; exact t1)
    · rw [if_neg z]
  · rw [(hk.un q0).1]
    by_cases q1 : bz ((W w).1 0 6) = 0
    · rw [if_pos (Or.inr q1), if_pos (Or.inr q1)]
      by_cases z : wk = some w
      · rw [if_pos z]
        unfold pnd
        rw [z]
        show 0 = 0 + if bz ((W w).1 0 6) = 0 then 0 else _
        rw [if_pos q1]
      · rw [if_neg z]
    · rw [if_neg (fun z => z.elim q0 q1), if_neg (fun z => z.elim q0 q1)]
      obtain ⟨m, d, l, rr, _, hw2⟩ := i.W w hw q0
      have m25 : m ≤ 25 := by
        have := hw2.md
        have := hw2.dl
        have := hw2.l12
        omega
      have old : cnt (fun k => decide (D (17 + 96 * w + (18 + 3 * k)) = nI e)) 0 m = cnt (fun k => decide ((W w).2.2 0 k = nI e)) 0 m :=
        cnt_cong (fun k _ hk2 => by rw [((hk.wy q0) k (by omega) (by rw [hw2.m, ix_nI (by omega)]; omega)).1])
      rw [hw2.m, ix_nI (by omega)]
      by_cases z : wk = some w
      · obtain ⟨_, m', tl, t1, t2, t3, t4, t5, t6, t7⟩ := r.T w z
        have mm : m' = m := (nI_eq (by omega) (by omega)).mp (t2.symm.trans hw2.m)
        subst mm
        rw [t6, ix_nI (by omega), cnt_add, old, if_pos z]
        unfold pnd
        rw [z]
        show _ = _ + if bz ((W w).1 0 6) = 0 then 0 else _
        rw [if_neg q1, t3, ix_nI (by omega), show (0 : Nat) + m' = m' + 0 by omega, cnt_shift]
        congr 1
        refine cnt_cong (fun j _ hj => ?_)
        obtain ⟨f, f1, f2, f3, _⟩ := t7 j (by omega)
        rw [f3, f2]
      · rw [r.M w hw q0 z, hw2.m, ix_nI (by omega), old, if_neg z]
        rfl
theorem Rel.eqh {wk : Option Nat} {U : NodV} {V : MemV} {H : OneV} {W : WkV} {D : RowV} {n vol t T : Nat} {x : Nat → Nat} (r : Rel wk U V H W D n) (i : Inv U V H W n vol t T x) (e : Nat) : hF D e = hcH H e + hcW W e + pnd wk V W e := by
  unfold hF hcH hcW
  rw [cnt_cong (P := fun k => decide (D (11 + k) = nI e)) (P' := fun k => decide (H 0 k = nI e)) (fun k _ hk => by rw [r.B.ha k (by omega)]), sm_cong (a := fun w => wF D w e) (b := fun w => hcK (W w) e + if wk = some w then pnd wk V W e else 0) (fun w _ hw => r.eqw i e (by omega)), sm_add]
  rw [Nat.add_assoc]
  congr 2
  cases wk with
  | none =>
    refine sm_zero (fun k _ _ => ?_)
    rw [if_neg (fun z => by cases z)]
  | some k =>
    rw [sm_at (e := k) (Nat.zero_le _) (by have := (r.T k rfl).1; omega) (fun j _ _ hne => if_neg (fun z => hne (by cases z; rfl))), if_pos rfl]
/-- what rename holds meanwhile -/
def HB (y : Int32) (x : Nat → Nat) : Prop := (y = -1 ∧ ∀ e, x e = 0) ∨ ∃ q, q < 64 ∧ y = nI q ∧ ∀ e, x e = if e = q then 1 else 0
theorem Rel.counts {wk : Option Nat} {U : NodV} {V : MemV} {H : OneV} {W : WkV} {D : RowV} {n vol t T : Nat} {x : Nat → Nat} (r : Rel wk U V H W D n) (i : Inv U V H W n vol t T x) {J : MJ} (h : RefL J) (I : MI) (hb : HB (I 188 20) x) (G : RowV) (c : Int32) : ∃ G', M_X10_counts [mR (some 188)] (rF I D G c, J) = some (none, (rF I D G' c, J)) ∧ ∀ e, e < 64 → ¬ V 1 e = 0 → G' e = nI (hc V H W e + x e + pnd wk V W e) := by
  obtain ⟨c1, c2, c3⟩ := r.ch i
  obtain ⟨G', g1, g2⟩ := w_counts h I D G c c1 c2 c3 (by
    rcases hb with ⟨z, _⟩ | ⟨q, q1, q2, _⟩
    · exact Or.inl z
    · exact Or.inr ⟨q, by omega, q2⟩)
  refine ⟨G', g1, fun e he q => ?_⟩
  rw [g2 e (by omega), r.eqe i he q, r.eqh i e]
  have hx : (if I 188 20 = nI e then 1 else 0) = x e := by
    rcases hb with ⟨z, z2⟩ | ⟨q, q1, q2, q3⟩
    · rw [z, z2, if_neg (fun y => nI_m1 (show e < 2 ^ 31 by omega) y.symm)]
    · rw [q2, q3]
      by_cases y : e = q
      · rw [if_pos y, if_pos (by rw [y])]
      · rw [if_neg y, if_neg (fun z => y ((nI_eq (by omega) (by omega)).mp z).symm)]
  rw [hx]
  have hs : hcC V e + hcV V e + (hcH H e + hcW W e + pnd wk V W e) + x e = hc V H W e + x e + pnd wk V W e := by
    unfold hc
    omega
  rw [hs]

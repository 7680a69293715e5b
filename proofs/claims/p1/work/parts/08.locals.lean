/-! Locals; what a pop says; arraycopy; a call. -/
def lva (base : Nat) : Nat → MLs → List (Nat × Value)
  | _, [] => []
  | i, none :: l => lva base (i + 1) l
  | i, some v :: l => (i, mval base v) :: lva base (i + 1) l
theorem lva_mem {base : Nat} {q : Nat × Value} : ∀ (lo : MLs) (i : Nat), q ∈ lva base i lo ↔ ∃ j v, nth lo j = some v ∧ q = (i + j, mval base v)
  | [], i => by simp [lva, nth]
  | none :: l, i => by
    rw [lva, lva_mem l (i + 1)]
    constructor
    · rintro ⟨j, v, h1, h2⟩
      exact ⟨j + 1, v, h1, by rw [h2]; congr 1; omega⟩
    · rintro ⟨j, v, h1, h2⟩
      cases j with
      | zero => cases h1
      | succ j => exact ⟨j, v, h1, by rw [h2]; congr 1; omega⟩
  | some w :: l, i => by
    rw [lva, List.mem_cons, lva_mem l (i + 1)]
    constructor
    · rintro (h | ⟨j, v, h1, h2⟩)
      · exact ⟨0, w, rfl, h⟩
      · exact ⟨j + 1, v, h1, by rw [h2]; congr 1; omega⟩
    · rintro ⟨j, v, h1, h2⟩
      cases j with
      | zero =>
        have : w = v := by simpa [nth] using h1
        subst this
        exact Or.inl h2
      | succ j => exact Or.inr ⟨j, v, h1, by rw [h2]; congr 1; omega⟩
/-- the slots hold what the small machine's locals say -/
def LR (base : Nat) (ls : Array Slot) (nL : Nat) (lo : MLs) : Prop := lv_has ls nL (lva base 0 lo)
theorem LR.at {base : Nat} {ls : Array Slot} {nL : Nat} {lo : MLs} (h : LR base ls nL lo) {j : Nat} {v : MV} (hj : nth lo j = some v) : ls[j]? = some (.val (mval base v)) := by
  have := h.2.2 (0 + j, mval base v) ((lva_mem lo 0).mpr ⟨j, v, hj, rfl⟩)
  rwa [Nat.zero_add] at this
theorem LR.weak {base : Nat} {ls : Array Slot} {nL : Nat} {lo lo' : MLs} (h : LR base ls nL lo) (hw : ∀ j v, nth lo' j = some v → nth lo j = some v) : LR base ls nL lo' := by
  refine ⟨h.1, h.2.1, fun q hq => ?_⟩
  obtain ⟨j, v, h1, h2⟩ := (lva_mem lo' 0).mp hq
  exact h.2.2 q ((lva_mem lo 0).mpr ⟨j, v, hw j v h1, h2⟩)
theorem nth_msk : ∀ (m : List Bool) (lo : MLs) (j : Nat) (v : MV), nth (msk m lo) j = some v → nth lo j = some v
  | [], lo, j, v, h => by simp [msk, nth] at h
  | b :: m, [], j, v, h => by simp [msk, nth] at h
  | b :: m, w :: l, 0, v, h => by
    cases b with
    | true => exact h
    | false => simp [msk, nth] at h
  | b :: m, w :: l, j + 1, v, h => nth_msk m l j v h
theorem LR.cut {base : Nat} {ls : Array Slot} {nL : Nat} {lo : MLs} (T : MT) (pc : Nat) (h : LR base ls nL lo) : LR base ls nL (cutAt T pc lo) := by
  unfold cutAt
  cases lk pc T.2.1 with
  | none => exact h
  | some m => exact h.weak (nth_msk m lo)
def isL (v : MV) : Bool := match v with
  | Sum.inr (Sum.inl _) => true
  | _ => false
theorem nth_dl {w : Option MV} {u : MV} (h : dl w = some u) : w = some u ∧ isL u = false := by
  unfold dl at h
  split at h
  · cases h
  · subst h
    refine ⟨rfl, ?_⟩
    match u with
    | Sum.inl x => rfl
    | Sum.inr (Sum.inr x) => rfl
    | Sum.inr (Sum.inl x) => rename_i hh; exact (hh x rfl).elim
theorem nth_lset : ∀ (lo : MLs) (j : Nat) (v : MV) (i : Nat) (u : MV), nth (lset lo j v) i = some u → (i = j ∧ u = v) ∨ (i ≠ j ∧ nth lo i = some u ∧ (i < j → isL u = false))
  | [], j, v, i, u, h => by simp [lset, nth] at h
  | w :: l, 0, v, 0, u, h => by
    have : v = u := by simpa [lset, nth] using h
    exact Or.inl ⟨rfl, this.symm⟩
  | w :: l, 0, v, i + 1, u, h => Or.inr ⟨by omega, h, by omega⟩
  | w :: l, j + 1, v, 0, u, h => by
    have h2 : dl w = some u := h
    obtain ⟨h3, h4⟩ := nth_dl h2
    exact Or.inr ⟨by omega, h3, fun _ => h4⟩
  | w :: l, j + 1, v, i + 1, u, h => by
    rcases nth_lset l j v i u h with ⟨h1, h2⟩ | ⟨h1, h2, h3⟩
    · exact Or.inl ⟨by omega, h2⟩
    · exact Or.inr ⟨by omega, h2, fun h => h3 (by omega)⟩
theorem cat_mval {base : Nat} {v : MV} (h : isL v = false) : (mval base v).category = 1 := by
  match v, h with
  | Sum.inl x, _ => rfl
  | Sum.inr (Sum.inr none), _ => rfl
  | Sum.inr (Sum.inr (some a)), _ => rfl
theorem LR.set {base : Nat} {ls' : Array Slot} {nL : Nat} {lo : MLs} {j : Nat} {v : MV} {w : Value} (hw : w = mval base v) (h : lv_has ls' nL ((j, w) :: (lva base 0 lo).filter (fun q => !(q.1 == j) && !(q.1 + 1 == j && q.2.category == 2)))) : LR base ls' nL (lset lo j v) := by
  refine ⟨h.1, h.2.1, fun q hq => h.2.2 q ?_⟩
  obtain ⟨i, u, h1, h2⟩ := (lva_mem _ 0).mp hq
  rw [Nat.zero_add] at h2
  rcases nth_lset lo j v i u h1 with ⟨rfl, rfl⟩ | ⟨h3, h4, h5⟩
  · rw [h2, hw]; exact List.mem_cons_self
  · refine List.mem_cons_of_mem _ (List.mem_filter.mpr ⟨(lva_mem lo 0).mpr ⟨i, u, h4, by rw [h2, Nat.zero_add]⟩, ?_⟩)
    rw [h2]
    have e1 : (i == j) = false := by simpa using h3
    simp only [e1, Bool.not_false, Bool.true_and, Bool.not_eq_true', Bool.and_eq_false_iff]
    by_cases h6 : i < j
    · exact Or.inr (by rw [cat_mval (h5 h6)]; rfl)
    · exact Or.inl (by simp; omega)
theorem pI_some {o : List MV} {f : Int32 → List MV → Option MO} {x : MO} (h : pI o f = some x) : ∃ y r, o = Sum.inl y :: r ∧ f y r = some x := by
  unfold pI at h
  split at h
  · exact ⟨_, _, rfl, h⟩
  · cases h
theorem pL_some {o : List MV} {f : Int64 → List MV → Option MO} {x : MO} (h : pL o f = some x) : ∃ y r, o = Sum.inr (Sum.inl y) :: r ∧ f y r = some x := by
  unfold pL at h
  split at h
  · exact ⟨_, _, rfl, h⟩
  · cases h
theorem pR_some {o : List MV} {f : Option Nat → List MV → Option MO} {x : MO} (h : pR o f = some x) : ∃ y r, o = Sum.inr (Sum.inr y) :: r ∧ f y r = some x := by
  unfold pR at h
  split at h
  · exact ⟨_, _, rfl, h⟩
  · cases h
theorem pC_some {o : List MV} {f : MV → List MV → Option MO} {x : MO} (h : pC o f = some x) : ∃ y r, o = y :: r ∧ isL y = false ∧ f y r = some x := by
  unfold pC at h
  split at h
  · exact ⟨_, _, rfl, rfl, h⟩
  · exact ⟨_, _, rfl, rfl, h⟩
  · cases h
theorem pN_some {f : List MV → List MV → Option MO} {x : MO} : ∀ (n : Nat) (acc o : List MV), pN n acc o f = some x → ∃ t r, o = t ++ r ∧ t.length = n ∧ f (t.reverse ++ acc) r = some x
  | 0, acc, o, h => ⟨[], o, rfl, rfl, h⟩
  | n + 1, acc, [], h => by cases h
  | n + 1, acc, v :: o, h => by
    obtain ⟨t, r, h1, h2, h3⟩ := pN_some n (v :: acc) o h
    exact ⟨v :: t, r, by rw [h1]; rfl, by rw [List.length_cons, h2], by rw [List.reverse_cons, List.append_assoc]; exact h3⟩
theorem lI_some {lo : MLs} {j : Nat} {f : Int32 → Option MO} {x : MO} (h : lI lo j f = some x) : ∃ y, nth lo j = some (Sum.inl y) ∧ f y = some x := by
  unfold lI at h
  split at h
  · exact ⟨_, by assumption, h⟩
  · cases h
theorem lL_some {lo : MLs} {j : Nat} {f : Int64 → Option MO} {x : MO} (h : lL lo j f = some x) : ∃ y, nth lo j = some (Sum.inr (Sum.inl y)) ∧ f y = some x := by
  unfold lL at h
  split at h
  · exact ⟨_, by assumption, h⟩
  · cases h
theorem lR_some {lo : MLs} {j : Nat} {f : Option Nat → Option MO} {x : MO} (h : lR lo j f = some x) : ∃ y, nth lo j = some (Sum.inr (Sum.inr y)) ∧ f y = some x := by
  unfold lR at h
  split at h
  · exact ⟨_, by assumption, h⟩
  · cases h
theorem bnd_some {α : Type} {o : Option α} {f : α → Option MO} {x : MO} (h : o.bind f = some x) : ∃ y, o = some y ∧ f y = some x := by
  cases o with
  | none => cases h
  | some y => exact ⟨y, rfl, h⟩
theorem few_some {r : List MV} {f : Option MO} {x : MO} (h : few r f = some x) : csum r ≤ 8 ∧ f = some x := by
  unfold few at h
  cases hb : Nat.ble (csum r) 8 with
  | true => rw [hb] at h; exact ⟨Nat.le_of_ble_eq_true hb, h⟩
  | false => rw [hb] at h; cases h
theorem cats (base : Nat) (r : List MV) : ((r.map (mval base)).map fun v => v.category).sum ≤ csum r := by
  induction r with
  | nil => simp
  | cons v r ih =>
    match v with
    | Sum.inl x =>
      show (Value.int x).category + _ ≤ 1 + csum r
      exact Nat.add_le_add (Nat.le_refl 1) ih
    | Sum.inr (Sum.inl x) =>
      show (Value.long x).category + _ ≤ 2 + csum r
      exact Nat.add_le_add (Nat.le_refl 2) ih
    | Sum.inr (Sum.inr x) =>
      show (mval base (Sum.inr (Sum.inr x))).category + _ ≤ 1 + csum r
      exact Nat.add_le_add (by rw [cat_mval rfl]; exact Nat.le_refl 1) ih
/-- a method's arguments as its first locals: a long takes two -/
def lay : List MV → MLs
  | [] => []
  | v :: l => match v with
    | Sum.inr (Sum.inl x) => some (Sum.inr (Sum.inl x)) :: none :: lay l
    | w => some w :: lay l
theorem lay_args (base : Nat) : ∀ (as : List MV) (i : Nat) (k : Nat), ∀ q ∈ lva base i (lay as ++ List.replicate k none), q ∈ lv_args i (as.map (mval base))
  | [], i, k, q, h => by
    exfalso
    obtain ⟨j, v, h1, -⟩ := (lva_mem _ i).mp h
    have : ∀ (k j : Nat), nth (List.replicate k none) j = none := by
      intro k
      induction k with
      | zero => intro j; rfl
      | succ k ih => intro j; cases j with
        | zero => rfl
        | succ j => exact ih j
    rw [show lay [] ++ List.replicate k none = List.replicate k none from rfl, this] at h1
    cases h1
  | v :: l, i, k, q, h => by
    match v, h with
    | Sum.inl x, h =>
      have h : q ∈ (i, Value.int x) :: lva base (i + 1) (lay l ++ List.replicate k none) := h
      show q ∈ (i, Value.int x) :: lv_args (i + 1) (l.map (mval base))
      rcases List.mem_cons.mp h with h | h
      · rw [h]; exact List.mem_cons_self
      · exact List.mem_cons_of_mem _ (lay_args base l (i + 1) k q h)
    | Sum.inr (Sum.inl x), h =>
      have h : q ∈ (i, Value.long x) :: lva base (i + 1 + 1) (lay l ++ List.replicate k none) := h
      show q ∈ (i, Value.long x) :: lv_args (i + 2) (l.map (mval base))
      rcases List.mem_cons.mp h with h | h
      · rw [h]; exact List.mem_cons_self
      · exact List.mem_cons_of_mem _ (lay_args base l (i + 2) k q h)
    | Sum.inr (Sum.inr r), h =>
      have h : q ∈ (i, mval base (Sum.inr (Sum.inr r))) :: lva base (i + 1) (lay l ++ List.replicate k none) := h
      have hc : (mval base (Sum.inr (Sum.inr r))).category = 1 := cat_mval rfl
      show q ∈ (i, mval base (Sum.inr (Sum.inr r))) :: lv_args (if (mval base (Sum.inr (Sum.inr r))).category = 2 then i + 2 else i + 1) (l.map (mval base))
      rw [if_neg (by rw [hc]; decide)]
      rcases List.mem_cons.mp h with h | h
      · rw [h]; exact List.mem_cons_self
      · exact List.mem_cons_of_mem _ (lay_args base l (i + 1) k q h)
theorem lay_len (base : Nat) : ∀ as : List MV, (lg_sl (as.map (mval base))).length = (lay as).length
  | [] => rfl
  | v :: l => by
    have ih := lay_len base l
    match v with
    | Sum.inl x =>
      show (lg_sl (Value.int x :: l.map (mval base))).length = (lay l).length + 1
      rw [← ih]; simp [lg_sl, Value.category]
    | Sum.inr (Sum.inl x) =>
      show (lg_sl (Value.long x :: l.map (mval base))).length = (lay l).length + 1 + 1
      rw [← ih]; simp [lg_sl, Value.category]
    | Sum.inr (Sum.inr r) =>
      have hc : (mval base (Sum.inr (Sum.inr r))).category = 1 := cat_mval rfl
      show (lg_sl (mval base (Sum.inr (Sum.inr r)) :: l.map (mval base))).length = (lay l).length + 1
      rw [← ih]; simp [lg_sl, hc]
/-- a method by its table: its arguments are the first locals, so many locals in all -/
noncomputable def runT (T : MT) (nL : Nat) : MF := fun as s => cond (Nat.ble (lay as).length nL) (Ev T 0 (lay as ++ List.replicate (nL - (lay as).length) none) [] s) none

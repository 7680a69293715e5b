/-! The small machine's heap beside the machine's: which cell stands at base + a, and that it stays so behind each write. -/
def RXc (c : Nat) : String := match c with
  | 0 => RX0 | 1 => RX1 | 2 => RX2 | 3 => RX3 | 4 => RX4 | 5 => RX5 | 6 => RX6 | 7 => RX7 | 8 => RX8 | 9 => RX9 | _ => RX10
def TXc (c : Nat) : u_T := match c with
  | 0 => TX0 | 1 => TX1 | 2 => TX2 | 3 => TX3 | 4 => TX4 | 5 => TX5 | 6 => TX6 | 7 => TX7 | 8 => TX8 | 9 => TX9 | _ => TX10
def tyc (c : Nat) : Nat → FieldType := match c with
  | 0 => tyX0 | 1 => tyX1 | 2 => tyX2 | 3 => tyX3 | 4 => tyX4 | 5 => tyX5 | 6 => tyX6 | 7 => tyX7 | 8 => tyX8 | 9 => tyX9 | _ => tyX10
def mcl : List vw_C := [(RX0, TX0, 3), (RX1, TX1, 17), (RX2, TX2, 7), (RX3, TX3, 7), (RX4, TX4, 2), (RX5, TX5, 2), (RX6, TX6, 7), (RX7, TX7, 9), (RX8, TX8, 4), (RX9, TX9, 16), (RX10, TX10, 43)]
theorem le10 {P : Nat → Prop} (h0 : P 0) (h1 : P 1) (h2 : P 2) (h3 : P 3) (h4 : P 4) (h5 : P 5) (h6 : P 6) (h7 : P 7) (h8 : P 8) (h9 : P 9) (h10 : P 10) : ∀ c, c ≤ 10 → P c
  | 0, _ => h0 | 1, _ => h1 | 2, _ => h2 | 3, _ => h3 | 4, _ => h4 | 5, _ => h5 | 6, _ => h6 | 7, _ => h7 | 8, _ => h8 | 9, _ => h9 | 10, _ => h10
  | n + 11, h => absurd h (by omega)
theorem mcl_at : ∀ c, c ≤ 10 → mcl[c]? = some (RXc c, TXc c, nfl c) := le10 rfl rfl rfl rfl rfl rfl rfl rfl rfl rfl rfl
theorem ty_ok : ∀ c, c ≤ 10 → ∀ k, k < nfl c → parseFieldDescriptor (TXc c k).2.2.1 = some (tyc c k) := le10 tyX0_ok tyX1_ok tyX2_ok tyX3_ok tyX4_ok tyX5_ok tyX6_ok tyX7_ok tyX8_ok tyX9_ok tyX10_ok
theorem nm_ok : ∀ c, c ≤ 10 → ∀ a, a < nfl c → ∀ b, b < nfl c → a ≠ b → (TXc c a).2.1 ≠ (TXc c b).2.1 := le10 nmX0 nmX1 nmX2 nmX3 nmX4 nmX5 nmX6 nmX7 nmX8 nmX9 nmX10
theorem own_ok : ∀ c, c ≤ 10 → ∀ k, k < nfl c → (TXc c k).1 = RXc c := by
  refine le10 ?_ ?_ ?_ ?_ ?_ ?_ ?_ ?_ ?_ ?_ ?_ <;> decide +kernel
def isNestW (w : Cond) : Bool := match w with
  | .fieldLinkNest .. => true
  | .methodLinkNest .. => true
  | _ => false
def lw_nest : List Cond := tables_1.filter isNestW
def lw_good : List Cond := lw_tbl.filter goodWord
theorem lw_goodIn : GoodIn lw_good lw_good := fun w h => ⟨h, good_of_word (List.mem_filter.mp h).2⟩
theorem in_good {w : Cond} (h : w ∈ tables_1) (g : goodWord w = true) : w ∈ lw_good := List.mem_filter.mpr ⟨List.mem_append_right _ h, g⟩
theorem in_nest {w : Cond} (h : w ∈ tables_1) (g : isNestW w = true) : w ∈ lw_nest := List.mem_filter.mpr ⟨h, g⟩
/-- words by their places -/
theorem in_places {ws : List Cond} (ps : List Nat) (hp : ws = ps.filterMap (fun i => tables_1[i]?)) (h : ws.all goodWord = true) : ∀ w ∈ ws, w ∈ lw_good := by
  intro w hw
  have h1 := List.all_eq_true.mp h w hw
  rw [hp] at hw
  obtain ⟨i, -, hi⟩ := List.mem_filterMap.mp hw
  exact in_good (List.mem_of_getElem? hi) h1
def mval (base : Nat) (v : MV) : Value := match v with
  | Sum.inl x => .int x
  | Sum.inr (Sum.inl x) => .long x
  | Sum.inr (Sum.inr r) => va_rf (r.map (fun a => base + a))
def ftc (t : FieldType) : Nat := match t with
  | .int => 0
  | .boolean => 1
  | .long => 2
  | _ => 3
/-- a field's value by its type -/
def mfv (base : Nat) (s : MH) (a k : Nat) (t : Nat) : Value := match t with
  | 0 => .int (s.1 a k)
  | 1 => .int (bz (s.1 a k))
  | 2 => .long (s.2.1 a k)
  | _ => va_rf ((s.2.2.1 a k).map (fun a => base + a))
def mfs (base : Nat) (s : MH) (a c : Nat) : List Value := (List.range (nfl c)).map fun k => mfv base s a k (ftc (tyc c k))
def mcell (cy : Nat → ClassId) (base : Nat) (s : MH) (a : Nat) : va_E :=
  if kd s a ≤ 10 then .inr (kd s a, mfs base s a (kd s a))
  else if kd s a ≤ 12 then .inl (cy (kd s a), ln s a, .inl (s.1 a))
  else .inl (cy (kd s a), ln s a, .inr (.inr (.inr (.inr fun j => (s.2.2.1 a j).map (fun a => base + a)))))
def mty (cy : Nat → ClassId) : List (ClassId × FieldType) := [(cy 11, .int), (cy 12, .boolean), (cy 13, .object RX4), (cy 14, .object RX7), (cy 15, .object RX8), (cy 16, .array .int)]
def HR (D : va_G) (cy : Nat → ClassId) (base : Nat) (s : MH) (H : Heap) : Prop :=
  H.size = base + sz s ∧ (∀ a, a < sz s → kd s a ≤ 16 ∧ va_at D mcl (base + a, mcell cy base s a) H) ∧ ∀ a, sz s ≤ a → kd s a = 17
theorem HR.lt {D : va_G} {cy : Nat → ClassId} {base : Nat} {s : MH} {H : Heap} (h : HR D cy base s H) {a : Nat} (hk : kd s a ≤ 16) : a < sz s := by
  rcases Nat.lt_or_ge a (sz s) with q | q
  · exact q
  · have := h.2.2 a q; omega
theorem HR.cell {D : va_G} {cy : Nat → ClassId} {base : Nat} {s : MH} {H : Heap} (h : HR D cy base s H) {a : Nat} (hk : kd s a ≤ 16) : va_at D mcl (base + a, mcell cy base s a) H := (h.2.1 a (h.lt hk)).2
theorem HR.obj {D : va_G} {cy : Nat → ClassId} {base : Nat} {s : MH} {H : Heap} (h : HR D cy base s H) {a c : Nat} (hk : kd s a = c) (hc : c ≤ 10) : va_at D mcl (base + a, .inr (c, mfs base s a c)) H := by
  subst hk
  have := h.cell (a := a) (by omega)
  unfold mcell at this
  rw [if_pos hc] at this
  exact this
theorem HR.ints {D : va_G} {cy : Nat → ClassId} {base : Nat} {s : MH} {H : Heap} (h : HR D cy base s H) {a d : Nat} (hk : kd s a = d) (h1 : 11 ≤ d) (h2 : d ≤ 12) : va_at D mcl (base + a, .inl (cy d, ln s a, .inl (s.1 a))) H := by
  subst hk
  have := h.cell (a := a) (by omega)
  unfold mcell at this
  rw [if_neg (by omega), if_pos h2] at this
  exact this
theorem HR.refs {D : va_G} {cy : Nat → ClassId} {base : Nat} {s : MH} {H : Heap} (h : HR D cy base s H) {a d : Nat} (hk : kd s a = d) (h1 : 13 ≤ d) (h2 : d ≤ 16) : va_at D mcl (base + a, .inl (cy d, ln s a, .inr (.inr (.inr (.inr fun j => (s.2.2.1 a j).map (fun a => base + a)))))) H := by
  subst hk
  have := h.cell (a := a) (by omega)
  unfold mcell at this
  rw [if_neg (by omega), if_neg (by omega)] at this
  exact this
/-- one cell was written -/
theorem HR.upd {D : va_G} {cy : Nat → ClassId} {base : Nat} {s s' : MH} {H H1 : Heap} (h : HR D cy base s H) (hz : sz s' = sz s) (hs : s'.2.2.2.1 = s.2.2.2.1) {a : Nat} (hcell : va_at D mcl (base + a, mcell cy base s' a) H1) (hsize : H1.size = H.size) (ho : ∀ q : Nat, q ≠ base + a → H1[q]? = H[q]?) (hb : ∀ b, b ≠ a → mcell cy base s' b = mcell cy base s b) : HR D cy base s' H1 := by
  have hk : ∀ b, kd s' b = kd s b := fun b => by show (s'.2.2.2.1 b).1 = _; rw [hs]
  refine ⟨by rw [hsize, hz]; exact h.1, fun b hbz => ?_, fun b hbz => by rw [hk]; exact h.2.2 b (by rw [← hz]; exact hbz)⟩
  rw [hz] at hbz
  refine ⟨by rw [hk]; exact (h.2.1 b hbz).1, ?_⟩
  by_cases e : b = a
  · subst e; exact hcell
  · rw [hb b e]
    exact (h.2.1 b hbz).2.kept (ho _ (by show base + b ≠ base + a; omega))
theorem mcell_same {cy : Nat → ClassId} {base : Nat} {s s' : MH} {b : Nat} (h0 : s'.2.2.2.1 b = s.2.2.2.1 b) (h1 : s'.1 b = s.1 b) (h2 : s'.2.1 b = s.2.1 b) (h3 : s'.2.2.1 b = s.2.2.1 b) : mcell cy base s' b = mcell cy base s b := by
  have e : mfs base s' b = mfs base s b := by
    funext c
    unfold mfs
    congr 1
    funext k
    unfold mfv
    rw [h1, h2, h3]
  have hk : kd s' b = kd s b := by show (s'.2.2.2.1 b).1 = _; rw [h0]
  have hl : ln s' b = ln s b := by show (s'.2.2.2.1 b).2 = _; rw [h0]
  unfold mcell
  rw [hk, hl, h1, h3, e]
theorem up2_ne {α : Type} (f : Nat → Nat → α) (a k : Nat) (v : α) {b : Nat} (h : b ≠ a) : up2 f a k v b = f b := by
  funext y
  simp [up2, h]
theorem up2_at {α : Type} (f : Nat → Nat → α) (a k : Nat) (v : α) (j : Nat) : up2 f a k v a j = if j = k then v else f a j := by
  simp [up2]
theorem mfs_len (base : Nat) (s : MH) (a c : Nat) : (mfs base s a c).length = nfl c := by simp [mfs]
theorem mfs_get (base : Nat) (s : MH) (a : Nat) {c k : Nat} (hk : k < nfl c) : (mfs base s a c)[k]? = some (mfv base s a k (ftc (tyc c k))) := by
  simp [mfs, hk]
/-- a row of fields with one of them written -/
theorem mfs_set {base : Nat} {s s' : MH} {a c k : Nat} {v : Value} (hv : mfv base s' a k (ftc (tyc c k)) = v) (ho : ∀ j, j ≠ k → ∀ t, mfv base s' a j t = mfv base s a j t) : (mfs base s a c).set k v = mfs base s' a c := by
  apply List.ext_getElem?
  intro j
  rw [List.getElem?_set]
  by_cases hj : j < nfl c
  · rw [mfs_get base s' a hj, mfs_get base s a hj]
    by_cases e : k = j
    · subst e
      rw [if_pos rfl, if_pos (by rw [mfs_len]; exact hj), hv]
    · rw [if_neg e, ho j (Ne.symm e)]
  · have h1 : (mfs base s a c)[j]? = none := by rw [List.getElem?_eq_none]; rw [mfs_len]; omega
    have h2 : (mfs base s' a c)[j]? = none := by rw [List.getElem?_eq_none]; rw [mfs_len]; omega
    rw [h1, h2]
    by_cases e : k = j
    · subst e
      rw [if_pos rfl, if_neg (by rw [mfs_len]; exact hj)]
    · rw [if_neg e]

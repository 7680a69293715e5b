/-! What the memory's small steps do, row by row. -/
theorem n64 {e : Nat} (h : e < 64) : ¬ nI e < 0 ∧ nI e < 64 ∧ ¬ (64 : Int32) ≤ nI e := ⟨nI_pos (by omega), nI_lt (b := 64) h (by decide), nI_ge (b := 64) h (by decide)⟩
theorem ix64 {e : Nat} (h : e < 64) : ix (nI e) = e := ix_nI (by omega)
theorem cT_k (V : MemV) (x : Int32) (r : Fin 12) (h0 : r ≠ 0) (h7 : r ≠ 7) (h11 : r ≠ 11) : gV_X1_comeTo V x r = V r := by
  unfold gV_X1_comeTo
  repeat' split
  all_goals (try rfl)
  all_goals simp only [uv_k _ _ _ _ _ h0, uv_k _ _ _ _ _ h7, uv_k _ _ _ _ _ h11]
theorem cT_0 (V : MemV) (x : Int32) (k : Nat) (h12 : k ≠ 12) (h16 : k ≠ 16) : gV_X1_comeTo V x 0 k = V 0 k := by
  unfold gV_X1_comeTo
  repeat' split
  all_goals (try rfl)
  all_goals simp [uv, h12, h16]
theorem cT_t (V : MemV) {e : Nat} (he : e < 64) : gV_X1_comeTo V (nI e) 0 12 = V 0 12 + 1 := by
  unfold gV_X1_comeTo
  rw [if_neg (n64 he).1, if_pos (n64 he).2.1]
  repeat' split
  all_goals simp [uv]
theorem cT_7 (V : MemV) {e : Nat} (he : e < 64) (j : Nat) : gV_X1_comeTo V (nI e) 7 j = if j = e then V 0 12 else V 7 j := by
  unfold gV_X1_comeTo
  rw [if_neg (n64 he).1, if_pos (n64 he).2.1]
  repeat' split
  all_goals simp_all [uv, ix64 he]
theorem cT_tl (V : MemV) {e tl : Nat} (he : e < 64) (ht : V 0 16 = nI tl) (h2 : tl < 2) : gV_X1_comeTo V (nI e) 0 16 = nI (tl + 1) ∧ ∀ j, gV_X1_comeTo V (nI e) 11 j = if j = tl then nI e else V 11 j := by
  unfold gV_X1_comeTo
  rw [if_neg (n64 he).1, if_pos (n64 he).2.1, ht, if_neg (nI_pos (by omega)), if_neg (show ¬ (2 : Int32) ≤ nI tl from nI_ge (b := 2) h2 (by decide)), ix_nI (by omega)]
  have et : ix (nI tl) = tl := ix_nI (by omega)
  refine ⟨?_, fun j => ?_⟩
  · simp [uv, nI_1]
  · simp [uv, et]
theorem ho_k (V : MemV) (x : Int32) (r : Fin 12) (h : r ≠ 5) : gV_X1_hold V x r = V r := by
  unfold gV_X1_hold
  repeat' split
  all_goals (try rfl)
  all_goals simp only [uv_k _ _ _ _ _ h]
theorem ho_5 (V : MemV) {e : Nat} (he : e < 64) (j : Nat) : gV_X1_hold V (nI e) 5 j = if j = e then V 5 e + 1 else V 5 j := by
  unfold gV_X1_hold
  rw [if_neg (n64 he).1, if_neg (n64 he).2.2, ix64 he, uv_at]
theorem ho_m (V : MemV) : gV_X1_hold V (-1) = V := if_pos (by decide)
theorem dr_k (V : MemV) (x : Int32) (r : Fin 12) (h1 : r ≠ 1) (h5 : r ≠ 5) : gV_X1_drop V x r = V r := by
  unfold gV_X1_drop
  repeat' split
  all_goals (try rfl)
  all_goals simp only [uv_k _ _ _ _ _ h1, uv_k _ _ _ _ _ h5]
theorem dr_1 (V : MemV) {e : Nat} (he : e < 64) (j : Nat) : gV_X1_drop V (nI e) 1 j = if j = e then 0 else V 1 j := by
  unfold gV_X1_drop
  rw [if_neg (n64 he).1, if_pos (n64 he).2.1, ix64 he]
  repeat' split
  all_goals simp_all [uv]
theorem dr_5 (V : MemV) {e p : Nat} (he : e < 64) (hp : V 2 e = nI p) (p64 : p < 64) (j : Nat) : gV_X1_drop V (nI e) 5 j = if j = p then V 5 p - 1 else V 5 j := by
  unfold gV_X1_drop
  rw [if_neg (n64 he).1, if_pos (n64 he).2.1, ix64 he, hp, if_neg (n64 p64).1, if_neg (n64 p64).2.2, ix64 p64, uv_at]
  simp [uv]
theorem dr_5r (V : MemV) {e : Nat} (he : e < 64) (hp : V 2 e = -1) : gV_X1_drop V (nI e) 5 = V 5 := by
  unfold gV_X1_drop
  rw [if_neg (n64 he).1, if_pos (n64 he).2.1, ix64 he, hp, if_pos (by decide)]
  funext j
  simp [uv]
theorem re_k (V : MemV) (x : Int32) (r : Fin 12) (h1 : r ≠ 1) (h5 : r ≠ 5) : gV_X1_release V x r = V r := by
  unfold gV_X1_release
  repeat' split
  all_goals (try rfl)
  all_goals simp only [uv_k _ _ _ _ _ h1, uv_k _ _ _ _ _ h5]
theorem re_5 (V : MemV) {e : Nat} (he : e < 64) (j : Nat) : gV_X1_release V (nI e) 5 j = if j = e then V 5 e - 1 else V 5 j := by
  unfold gV_X1_release
  rw [if_neg (n64 he).1, if_pos (n64 he).2.1, ix64 he]
  repeat' split
  all_goals simp_all [uv]
theorem re_1 (V : MemV) {e : Nat} (he : e < 64) (j : Nat) : gV_X1_release V (nI e) 1 j = if j = e ∧ V 1 e = 2 ∧ ¬ (0 : Int32) < V 5 e - 1 then 0 else V 1 j := by
  unfold gV_X1_release
  rw [if_neg (n64 he).1, if_pos (n64 he).2.1, ix64 he]
  by_cases a : V 1 e = 2
  · rw [if_pos a]
    by_cases b : (0 : Int32) < V 5 e - 1
    · rw [if_pos b, if_neg (fun q => q.2.2 b)]
      simp [uv]
    · rw [if_neg b]
      by_cases c : j = e
      · rw [if_pos ⟨c, a, b⟩]
        simp [uv, c]
      · rw [if_neg (fun q => c q.1)]
        simp [uv, c]
  · rw [if_neg a, if_neg (fun q => a q.2.1)]
    simp [uv]
theorem re_m (V : MemV) : gV_X1_release V (-1) = V := if_pos (by decide)
def ad0 (V : MemV) (e : Nat) (x1 x2 x3 : Int32) : MemV := uv (uv (uv (uv (uv (uv (uv V 1 e 1) 2 e x1) 3 e x2) 4 e x3) 5 e 0) 6 e 0) 8 e (V 0 12)
theorem lu_some {V : MemV} {e : Nat} (h : f_X1_leastUnused V = some e) : e < 64 ∧ V 1 e = 0 ∧ ∀ i, i < e → ¬ V 1 i = 0 := by
  obtain ⟨h1, h2, h3, h4⟩ := fst_some h
  refine ⟨by omega, ?_, fun i hi => ?_⟩
  · by_cases q : V 1 e = 0
    · exact q
    · rw [if_neg q] at h3
      cases h3
  · have := h4 i (Nat.zero_le _) hi
    intro q
    rw [if_pos q] at this
    cases this
theorem ad_q {V : MemV} {e : Nat} (h : f_X1_leastUnused V = some e) (x1 x2 x3 : Int32) : q_X1_add V x1 x2 x3 = nI e := by
  have he := (lu_some h).1
  have hq : q_X1_leastUnused V = nI e := by
    show oI (f_X1_leastUnused V) = _
    rw [h]
    rfl
  unfold q_X1_add
  rw [hq, if_neg (n64 he).1, if_pos (n64 he).2.1]
theorem ad_g {V : MemV} {e : Nat} (h : f_X1_leastUnused V = some e) (x1 x2 x3 : Int32) : gV_X1_add V x1 x2 x3 = gV_X1_comeTo (gV_X1_hold (ad0 V e x1 x2 x3) x1) (nI e) := by
  have he := (lu_some h).1
  have hq : q_X1_leastUnused V = nI e := by
    show oI (f_X1_leastUnused V) = _
    rw [h]
    rfl
  unfold gV_X1_add ad0
  rw [hq, if_neg (n64 he).1, if_pos (n64 he).2.1, ix64 he]
theorem ad_k {V : MemV} {e : Nat} (h : f_X1_leastUnused V = some e) (x1 x2 x3 : Int32) (r : Fin 12) (hr : r = 9 ∨ r = 10) : gV_X1_add V x1 x2 x3 r = V r := by
  rw [ad_g h]
  rcases hr with hr | hr
  · subst hr
    rw [cT_k _ _ _ (by decide) (by decide) (by decide), ho_k _ _ _ (by decide)]
    funext j
    simp [ad0, uv]
  · subst hr
    rw [cT_k _ _ _ (by decide) (by decide) (by decide), ho_k _ _ _ (by decide)]
    funext j
    simp [ad0, uv]
theorem ad_1 {V : MemV} {e : Nat} (h : f_X1_leastUnused V = some e) (x1 x2 x3 : Int32) (j : Nat) : gV_X1_add V x1 x2 x3 1 j = if j = e then 1 else V 1 j := by
  rw [ad_g h, cT_k _ _ _ (by decide) (by decide) (by decide), ho_k _ _ _ (by decide)]
  simp [ad0, uv]
theorem ad_2 {V : MemV} {e : Nat} (h : f_X1_leastUnused V = some e) (x1 x2 x3 : Int32) (j : Nat) : gV_X1_add V x1 x2 x3 2 j = if j = e then x1 else V 2 j := by
  rw [ad_g h, cT_k _ _ _ (by decide) (by decide) (by decide), ho_k _ _ _ (by decide)]
  simp [ad0, uv]
theorem ad_3 {V : MemV} {e : Nat} (h : f_X1_leastUnused V = some e) (x1 x2 x3 : Int32) (j : Nat) : gV_X1_add V x1 x2 x3 3 j = if j = e then x2 else V 3 j := by
  rw [ad_g h, cT_k _ _ _ (by decide) (by decide) (by decide), ho_k _ _ _ (by decide)]
  simp [ad0, uv]
theorem ad_4 {V : MemV} {e : Nat} (h : f_X1_leastUnused V = some e) (x1 x2 x3 : Int32) (j : Nat) : gV_X1_add V x1 x2 x3 4 j = if j = e then x3 else V 4 j := by
  rw [ad_g h, cT_k _ _ _ (by decide) (by decide) (by decide), ho_k _ _ _ (by decide)]
  simp [ad0, uv]
theorem ad_6 {V : MemV} {e : Nat} (h : f_X1_leastUnused V = some e) (x1 x2 x3 : Int32) (j : Nat) : gV_X1_add V x1 x2 x3 6 j = if j = e then 0 else V 6 j := by
  rw [ad_g h, cT_k _ _ _ (by decide) (by decide) (by decide), ho_k _ _ _ (by decide)]
  simp [ad0, uv]
theorem ad_8 {V : MemV} {e : Nat} (h : f_X1_leastUnused V = some e) (x1 x2 x3 : Int32) (j : Nat) : gV_X1_add V x1 x2 x3 8 j = if j = e then V 0 12 else V 8 j := by
  rw [ad_g h, cT_k _ _ _ (by decide) (by decide) (by decide), ho_k _ _ _ (by decide)]
  simp [ad0, uv]
theorem ad_7 {V : MemV} {e : Nat} (h : f_X1_leastUnused V = some e) (x1 x2 x3 : Int32) (j : Nat) : gV_X1_add V x1 x2 x3 7 j = if j = e then V 0 12 else V 7 j := by
  rw [ad_g h, cT_7 _ (lu_some h).1, ho_k _ _ _ (by decide), ho_k _ _ _ (by decide)]
  simp [ad0, uv]
theorem ad_0 {V : MemV} {e : Nat} (h : f_X1_leastUnused V = some e) (x1 x2 x3 : Int32) (k : Nat) (h12 : k ≠ 12) (h16 : k ≠ 16) : gV_X1_add V x1 x2 x3 0 k = V 0 k := by
  rw [ad_g h, cT_0 _ _ _ h12 h16, ho_k _ _ _ (by decide)]
  simp [ad0, uv]
theorem ad_t {V : MemV} {e : Nat} (h : f_X1_leastUnused V = some e) (x1 x2 x3 : Int32) : gV_X1_add V x1 x2 x3 0 12 = V 0 12 + 1 := by
  rw [ad_g h, cT_t _ (lu_some h).1, ho_k _ _ _ (by decide)]
  simp [ad0, uv]
theorem ad_5 {V : MemV} {e p : Nat} (h : f_X1_leastUnused V = some e) (x1 x2 x3 : Int32) (hp : x1 = nI p) (p64 : p < 64) (hne : p ≠ e) (j : Nat) : gV_X1_add V x1 x2 x3 5 j = if j = e then 0 else if j = p then V 5 p + 1 else V 5 j := by
  subst hp
  rw [ad_g h, cT_k _ _ _ (by decide) (by decide) (by decide), ho_5 _ p64]
  by_cases q : j = e
  · subst q
    rw [if_pos rfl, if_neg (Ne.symm hne)]
    simp [ad0, uv]
  · rw [if_neg q]
    by_cases q2 : j = p
    · rw [if_pos q2, if_pos q2]
      simp [ad0, uv, hne]
    · rw [if_neg q2, if_neg q2]
      simp [ad0, uv, q]
theorem ad_5r {V : MemV} {e : Nat} (h : f_X1_leastUnused V = some e) (x2 x3 : Int32) (j : Nat) : gV_X1_add V (-1) x2 x3 5 j = if j = e then 0 else V 5 j := by
  rw [ad_g h, cT_k _ _ _ (by decide) (by decide) (by decide), ho_m]
  simp [ad0, uv]
theorem ad_tl {V : MemV} {e tl : Nat} (h : f_X1_leastUnused V = some e) (x1 x2 x3 : Int32) (ht : V 0 16 = nI tl) (h2 : tl < 2) : gV_X1_add V x1 x2 x3 0 16 = nI (tl + 1) ∧ ∀ j, gV_X1_add V x1 x2 x3 11 j = if j = tl then nI e else V 11 j := by
  rw [ad_g h]
  have a := cT_tl (gV_X1_hold (ad0 V e x1 x2 x3) x1) (e := e) (tl := tl) (lu_some h).1 (by rw [ho_k _ _ _ (by decide)]; simp [ad0, uv, ht]) h2
  refine ⟨a.1, fun j => ?_⟩
  rw [a.2 j, ho_k _ _ _ (by decide)]
  simp [ad0, uv]

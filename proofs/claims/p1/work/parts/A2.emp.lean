/-! An entry without its node, on both sides. -/
theorem emp0_o (D : RowV) {k e j : Nat} (hk : j ≠ 401 + 5 * k + 4) (h4 : j ≠ 701 + 9 * e + 4) (h3 : j ≠ 701 + 9 * e + 3) : (sD (sD (sD D (401 + 5 * k + 4) 0) (701 + 9 * e + 4) (D (701 + 9 * e + 4) + 1)) (701 + 9 * e + 3) (-1)) j = D j := by
  rw [sD_n _ _ h3, sD_n _ _ h4, sD_n _ _ hk]
theorem Rel.emp0 {U U' : NodV} {V V' : MemV} {H : OneV} {W : WkV} {D : RowV} {n vol : Nat} (r : Rel none U V H W D n) (hN : NodI U n vol) {e k : Nat} (e64 : e < 64) (e1 : ¬ V 1 e = 0) (kn : k < n) (u4 : ∀ j, U' 4 j = if j = k then 0 else U 4 j) (uk : ∀ q : Fin 6, q ≠ 4 → U' q = U q) (a4 : ∀ j, V' 4 j = if j = e then -1 else V 4 j) (a6 : ∀ j, V' 6 j = if j = e then V 6 e + 1 else V 6 j) (kk : ∀ q : Fin 12, q ≠ 4 → q ≠ 6 → V' q = V q) : Rel none U' V' H W (sD (sD (sD D (401 + 5 * k + 4) 0) (701 + 9 * e + 4) (D (701 + 9 * e + 4) + 1)) (701 + 9 * e + 3) (-1)) n := by
  have n60 := hN.n60
  have o := fun {j} hk h4 h3 => emp0_o D (k := k) (e := e) (j := j) hk h4 h3
  have dk : (sD (sD (sD D (401 + 5 * k + 4) 0) (701 + 9 * e + 4) (D (701 + 9 * e + 4) + 1)) (701 + 9 * e + 3) (-1)) (401 + 5 * k + 4) = 0 := by
    rw [sD_n _ _ (by omega), sD_n _ _ (by omega), sD_s]
  have d4 : (sD (sD (sD D (401 + 5 * k + 4) 0) (701 + 9 * e + 4) (D (701 + 9 * e + 4) + 1)) (701 + 9 * e + 3) (-1)) (701 + 9 * e + 4) = D (701 + 9 * e + 4) + 1 := by
    rw [sD_n _ _ (by omega), sD_s]
  have d3 : (sD (sD (sD D (401 + 5 * k + 4) 0) (701 + 9 * e + 4) (D (701 + 9 * e + 4) + 1)) (701 + 9 * e + 3) (-1)) (701 + 9 * e + 3) = -1 := sD_s _ _ _
  generalize (sD (sD (sD D (401 + 5 * k + 4) 0) (701 + 9 * e + 4) (D (701 + 9 * e + 4) + 1)) (701 + 9 * e + 3) (-1)) = D2 at o dk d4 d3 ⊢
  have b := r.B
  have c0 := kk 0 (by decide) (by decide)
  have c1 := kk 1 (by decide) (by decide)
  refine r.fr ⟨?_, ?_, ?_, ?_, ?_, ?_, ?_, ?_, ?_, ?_, ?_⟩ (fun j h1 h2 => o (by omega) (by omega) (by omega)) (fun k z => by cases z)
  · rw [o (by omega) (by omega) (by omega), c0]; exact b.tk
  · rw [o (by omega) (by omega) (by omega), c0]; exact b.lo
  · rw [o (by omega) (by omega) (by omega), c0]; exact b.tr
  · rw [o (by omega) (by omega) (by omega), c0]; exact b.rm
  · rw [o (by omega) (by omega) (by omega), uk 0 (by decide)]; exact b.ev
  · intro v hv
    rw [o (by omega) (by omega) (by omega), kk 9 (by decide) (by decide)]; exact b.rt v hv
  · intro v hv
    rw [o (by omega) (by omega) (by omega), kk 10 (by decide) (by decide)]; exact b.ov v hv
  · intro j hj
    rw [o (by omega) (by omega) (by omega)]; exact b.ha j hj
  · intro j hj
    rw [uk 1 (by decide), uk 2 (by decide), uk 3 (by decide), u4, o (by omega) (by omega) (by omega), o (j := 401 + 5 * j + 2) (by omega) (by omega) (by omega), o (j := 401 + 5 * j + 3) (by omega) (by omega) (by omega), o (j := 401 + 5 * j + 1) (by omega) (by omega) (by omega)]
    have q := b.nd j hj
    by_cases z : j = k
    · subst z
      rw [dk, if_pos rfl, if_pos rfl]
      exact ⟨q.1, q.2.1, q.2.2.1, rfl, fun w => absurd rfl w⟩
    · rw [if_neg z, o (by omega) (by omega) (by omega)]
      exact q
  · intro f hf
    rw [o (by omega) (by omega) (by omega)]
    rw [b.th f hf]
    rw [c1]
  · intro f hf q
    rw [c1] at q
    have en := b.en f hf q
    rw [o (j := 701 + 9 * f + 1) (by omega) (by omega) (by omega), o (j := 701 + 9 * f + 2) (by omega) (by omega) (by omega), o (j := 701 + 9 * f + 5) (by omega) (by omega) (by omega), o (j := 701 + 9 * f + 6) (by omega) (by omega) (by omega), o (j := 701 + 9 * f + 7) (by omega) (by omega) (by omega), o (j := 701 + 9 * f + 8) (by omega) (by omega) (by omega), c1, kk 2 (by decide) (by decide), kk 3 (by decide) (by decide), kk 7 (by decide) (by decide), kk 8 (by decide) (by decide), cov_fr (kk 10 (by decide) (by decide)), a4, a6]
    by_cases z : f = e
    · subst z
      rw [d3, d4, if_pos rfl, if_pos rfl, en.2.2.2.1]
      exact ⟨en.1, en.2.1, rfl, rfl, en.2.2.2.2⟩
    · rw [if_neg z, if_neg z, o (j := 701 + 9 * f + 3) (by omega) (by omega) (by omega), o (j := 701 + 9 * f + 4) (by omega) (by omega) (by omega)]
      exact en
theorem emp1_o (D : RowV) {k e j : Nat} (hk : j ≠ 401 + 5 * k + 4) (h4 : j ≠ 701 + 9 * e + 4) (h8 : j ≠ 701 + 9 * e + 8) (h1 : j ≠ 701 + 9 * e + 1) : (sD (sD (sD (sD D (401 + 5 * k + 4) 0) (701 + 9 * e + 4) (D (701 + 9 * e + 4) + 1)) (701 + 9 * e + 8) 1) (701 + 9 * e + 1) (-1)) j = D j := by
  rw [sD_n _ _ h1, sD_n _ _ h8, sD_n _ _ h4, sD_n _ _ hk]
theorem Rel.emp1 {U U' : NodV} {V V' : MemV} {H : OneV} {W : WkV} {D : RowV} {n vol : Nat} (r : Rel none U V H W D n) (hN : NodI U n vol) {e k : Nat} (e64 : e < 64) (e1 : ¬ V 1 e = 0) (kn : k < n) (u4 : ∀ j, U' 4 j = if j = k then 0 else U 4 j) (uk : ∀ q : Fin 6, q ≠ 4 → U' q = U q) (a1 : ∀ j, V' 1 j = if j = e then 2 else V 1 j) (a2 : ∀ j, V' 2 j = if j = e then -1 else V 2 j) (a6 : ∀ j, V' 6 j = if j = e then V 6 e + 1 else V 6 j) (kk : ∀ q : Fin 12, q ≠ 1 → q ≠ 2 → q ≠ 5 → q ≠ 6 → V' q = V q) : Rel none U' V' H W (sD (sD (sD (sD D (401 + 5 * k + 4) 0) (701 + 9 * e + 4) (D (701 + 9 * e + 4) + 1)) (701 + 9 * e + 8) 1) (701 + 9 * e + 1) (-1)) n := by
  have n60 := hN.n60
  have o := fun {j} hk h4 h8 h1 => emp1_o D (k := k) (e := e) (j := j) hk h4 h8 h1
  have dk : (sD (sD (sD (sD D (401 + 5 * k + 4) 0) (701 + 9 * e + 4) (D (701 + 9 * e + 4) + 1)) (701 + 9 * e + 8) 1) (701 + 9 * e + 1) (-1)) (401 + 5 * k + 4) = 0 := by
    rw [sD_n _ _ (by omega), sD_n _ _ (by omega), sD_n _ _ (by omega), sD_s]
  have d4 : (sD (sD (sD (sD D (401 + 5 * k + 4) 0) (701 + 9 * e + 4) (D (701 + 9 * e + 4) + 1)) (701 + 9 * e + 8) 1) (701 + 9 * e + 1) (-1)) (701 + 9 * e + 4) = D (701 + 9 * e + 4) + 1 := by
    rw [sD_n _ _ (by omega), sD_n _ _ (by omega), sD_s]
  have d8 : (sD (sD (sD (sD D (401 + 5 * k + 4) 0) (701 + 9 * e + 4) (D (701 + 9 * e + 4) + 1)) (701 + 9 * e + 8) 1) (701 + 9 * e + 1) (-1)) (701 + 9 * e + 8) = 1 := by
    rw [sD_n _ _ (by omega), sD_s]
  have d1 : (sD (sD (sD (sD D (401 + 5 * k + 4) 0) (701 + 9 * e + 4) (D (701 + 9 * e + 4) + 1)) (701 + 9 * e + 8) 1) (701 + 9 * e + 1) (-1)) (701 + 9 * e + 1) = -1 := sD_s _ _ _
  generalize (sD (sD (sD (sD D (401 + 5 * k + 4) 0) (701 + 9 * e + 4) (D (701 + 9 * e + 4) + 1)) (701 + 9 * e + 8) 1) (701 + 9 * e + 1) (-1)) = D2 at o dk d4 d8 d1 ⊢
  have b := r.B
  have c0 := kk 0 (by decide) (by decide) (by decide) (by decide)
  refine r.fr ⟨?_, ?_, ?_, ?_, ?_, ?_, ?_, ?_, ?_, ?_, ?_⟩ (fun j h1 h2 => o (by omega) (by omega) (by omega) (by omega)) (fun k z => by cases z)
  · rw [o (by omega) (by omega) (by omega) (by omega), c0]; exact b.tk
  · rw [o (by omega) (by omega) (by omega) (by omega), c0]; exact b.lo
  · rw [o (by omega) (by omega) (by omega) (by omega), c0]; exact b.tr
  · rw [o (by omega) (by omega) (by omega) (by omega), c0]; exact b.rm
  · rw [o (by omega) (by omega) (by omega) (by omega), uk 0 (by decide)]; exact b.ev
  · intro v hv
    rw [o (by omega) (by omega) (by omega) (by omega), kk 9 (by decide) (by decide) (by decide) (by decide)]; exact b.rt v hv
  · intro v hv
    rw [o (by omega) (by omega) (by omega) (by omega), kk 10 (by decide) (by decide) (by decide) (by decide)]; exact b.ov v hv
  · intro j hj
    rw [o (by omega) (by omega) (by omega) (by omega)]; exact b.ha j hj
  · intro j hj
    rw [uk 1 (by decide), uk 2 (by decide), uk 3 (by decide), u4, o (by omega) (by omega) (by omega) (by omega), o (j := 401 + 5 * j + 2) (by omega) (by omega) (by omega) (by omega), o (j := 401 + 5 * j + 3) (by omega) (by omega) (by omega) (by omega), o (j := 401 + 5 * j + 1) (by omega) (by omega) (by omega) (by omega)]
    have q := b.nd j hj
    by_cases z : j = k
    · subst z
      rw [dk, if_pos rfl, if_pos rfl]
      exact ⟨q.1, q.2.1, q.2.2.1, rfl, fun w => absurd rfl w⟩
    · rw [if_neg z, o (by omega) (by omega) (by omega) (by omega)]
      exact q
  · intro f hf
    rw [o (by omega) (by omega) (by omega) (by omega)]
    rw [b.th f hf]
    by_cases z : f = e
    · rw [z, a1, if_pos rfl, if_pos ⟨e64, e1⟩, if_pos ⟨e64, by decide⟩]
    · rw [a1, if_neg z]
  · intro f hf q
    have q' : ¬ V 1 f = 0 := by
      by_cases z : f = e
      · rw [z]; exact e1
      · rw [a1, if_neg z] at q; exact q
    have en := b.en f hf q'
    rw [o (j := 701 + 9 * f + 2) (by omega) (by omega) (by omega) (by omega), o (j := 701 + 9 * f + 3) (by omega) (by omega) (by omega) (by omega), o (j := 701 + 9 * f + 5) (by omega) (by omega) (by omega) (by omega), o (j := 701 + 9 * f + 6) (by omega) (by omega) (by omega) (by omega), o (j := 701 + 9 * f + 7) (by omega) (by omega) (by omega) (by omega), kk 3 (by decide) (by decide) (by decide) (by decide), kk 4 (by decide) (by decide) (by decide) (by decide), kk 7 (by decide) (by decide) (by decide) (by decide), kk 8 (by decide) (by decide) (by decide) (by decide), cov_fr (kk 10 (by decide) (by decide) (by decide) (by decide)), a1, a2, a6]
    by_cases z : f = e
    · subst z
      rw [d1, d4, d8, if_pos rfl, if_pos rfl, if_pos rfl, en.2.2.2.1]
      exact ⟨rfl, en.2.1, en.2.2.1, rfl, en.2.2.2.2.1, en.2.2.2.2.2.1, en.2.2.2.2.2.2.1, rfl⟩
    · rw [if_neg z, if_neg z, if_neg z, o (j := 701 + 9 * f + 1) (by omega) (by omega) (by omega) (by omega), o (j := 701 + 9 * f + 4) (by omega) (by omega) (by omega) (by omega), o (j := 701 + 9 * f + 8) (by omega) (by omega) (by omega) (by omega)]
      exact en

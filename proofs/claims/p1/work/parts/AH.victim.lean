/-! What would be given up next, on both sides. -/
theorem Rel.drp {U : NodV} {V : MemV} {H : OneV} {W : WkV} {D : RowV} {n : Nat} (r : Rel none U V H W D n) (n60 : n ≤ 60) {e : Nat} (he : e < 64) : Rel none U (gV_X1_drop V (nI e)) H W (sD D (701 + 9 * e + 0) 0) n := by
  have o : ∀ i, i ≠ 701 + 9 * e + 0 → sD D (701 + 9 * e + 0) 0 i = D i := fun i h2 => sD_n _ _ h2
  have k := dr_k V (nI e)
  have b := r.B
  refine r.fr ⟨?_, ?_, ?_, ?_, ?_, ?_, ?_, ?_, ?_, ?_, ?_⟩ (fun i h1 h2 => o i (by omega)) (fun k z => by cases z)
  · rw [o 0 (by omega), k 0 (by decide) (by decide)]; exact b.tk
  · rw [o 1 (by omega), k 0 (by decide) (by decide)]; exact b.lo
  · rw [o 2 (by omega), k 0 (by decide) (by decide)]; exact b.tr
  · rw [o 3 (by omega), k 0 (by decide) (by decide)]; exact b.rm
  · rw [o 4 (by omega)]; exact b.ev
  · intro v hv
    rw [o _ (by omega), k 9 (by decide) (by decide)]; exact b.rt v hv
  · intro v hv
    rw [o _ (by omega), k 10 (by decide) (by decide)]; exact b.ov v hv
  · intro v hv
    rw [o _ (by omega)]; exact b.ha v hv
  · intro j hj
    rw [o _ (by omega), o _ (by omega), o _ (by omega), o _ (by omega), o _ (by omega)]
    exact b.nd j hj
  · intro f hf
    rw [dr_1 V he]
    by_cases q : f = e
    · subst q
      rw [if_pos rfl, if_neg (fun z => z.2 rfl), sD_s]
    · rw [if_neg q, o _ (by omega)]
      exact b.th f hf
  · intro f hf q
    rw [dr_1 V he] at q
    by_cases z : f = e
    · rw [if_pos z] at q
      exact absurd rfl q
    · rw [if_neg z] at q
      rw [dr_1 V he, if_neg z, o _ (by omega), o _ (by omega), o _ (by omega), o _ (by omega), o _ (by omega), o _ (by omega), o _ (by omega), o _ (by omega), k 2 (by decide) (by decide), k 3 (by decide) (by decide), k 4 (by decide) (by decide), k 6 (by decide) (by decide), k 7 (by decide) (by decide), k 8 (by decide) (by decide), cov_fr (k 10 (by decide) (by decide))]
      exact b.en f hf q
theorem nc_dr {V : MemV} {e : Nat} (he : e < 64) (h : ¬ V 1 e = 0) : nc (gV_X1_drop V (nI e)) + 1 = nc V := by
  have c := cnt_one (P := fun k => decide (¬ V 1 k = 0)) (P' := fun k => decide (¬ gV_X1_drop V (nI e) 1 k = 0)) (e := e) (n := 64) (k := 0) (Nat.zero_le _) (by omega) (fun j _ _ q => by rw [dr_1 V he, if_neg q])
  rw [dr_1 V he, if_pos rfl, if_pos (show decide (¬ V 1 e = 0) = true by simpa using h)] at c
  unfold nc
  simpa using c
theorem Inv.nc1 {U : NodV} {V : MemV} {H : OneV} {W : WkV} {n vol t T : Nat} {x : Nat → Nat} (i : Inv U V H W n vol t T x) : 0 < nc V := by
  obtain ⟨r0, r1, r2⟩ := i.M.r0
  rcases i.M.rt 0 (by omega) with ⟨q, _⟩ | ⟨_, r', r64, q2, q3, _⟩
  · rw [q] at r2
    exact absurd r2.symm (nI_m1 (by omega))
  · unfold nc
    refine cnt_pos (i := r') (Nat.zero_le _) (by omega) ?_
    simp only [decide_eq_true_eq]
    rw [q3]
    exact i10
theorem victim_loop {U : NodV} {H : OneV} {W : WkV} {n vol t T : Nat} {J : MJ} (h : RefL J) (I : MI) (hb : I 188 20 = -1) (c : Int32) (k : Int32) (nn : Nat) : ∀ (g : Nat) (V : MemV) (D G : RowV), g + nn = 64 → Rel none U V H W D n → Inv U V H W n vol t T (fun _ => 0) → nc V ≤ nn → ∃ D' G', Ev T_X10_victim 29 [some (mR (some 188)), some (mI k), some (mI (nI g)), some (mI (-1)), some (mI (q_X1_longestUnused V (-1)))] [] (rF I D G c, J) = some (some (mI (lp_victim k nn (nI g) V).1), (itr (rcp 196 194) 0 1853 (rF I D' G' c), J)) := by
  induction nn with
  | zero =>
    intro g V D G hg r i hn
    have := i.nc1
    omega
  | succ nn ih =>
    intro g V D G hg r i hn
    have tb := w_takesBack h (rF I D G c)
    generalize hX : itr (rcp 196 194) 0 1853 (rF I D G c) = X at tb
    have st : lp_victim k (nn + 1) (nI g) V = if q_X1_longestUnused V (-1) = -1 then (if k = -1 then nI g else -1, V) else if nI g = k then (q_X1_longestUnused V (-1), V) else lp_victim k nn (nI g + 1) (gV_X1_drop V (q_X1_longestUnused V (-1))) := rfl
    rw [st, E_X10_victim_29]
    rcases lu_q V (-1) with ⟨q, _⟩ | ⟨e, e64, q, fr⟩
    · refine ⟨D, G, ?_⟩
      rw [hX, q, if_pos rfl, if_pos rfl]
      simp only [h.kt, if_true, tb, Option.bind_some, asV_n]
      by_cases z : k = -1
      · simp only [if_pos z]
      · simp only [if_neg z]
    · have em : ¬ nI e = -1 := nI_m1 (by omega)
      rw [q, if_neg em, if_neg em]
      have s0 : ¬ V 1 e = 0 := by rw [fr.1]; exact i10
      by_cases z : nI g = k
      · refine ⟨D, G, ?_⟩
        have km : ¬ k = -1 := by rw [← z]; exact nI_m1 (by omega)
        rw [hX, if_pos z, if_pos z]
        simp only [h.kt, if_true, tb, Option.bind_some, asV_n, if_neg km]
      · rw [if_neg z, if_neg z]
        have hz := (i.hz e64 s0).mp fr.2.1
        have i2 := i.drop e64 fr.1 fr.2.2.1 hz.1 hz.2
        have r2 := r.drp i.N.n60 e64
        have nd := nc_dr e64 s0
        obtain ⟨G', lf⟩ := r2.leastFree i2 h I (Or.inl ⟨hb, fun _ => rfl⟩) G c (-1) (fun _ _ _ => rfl)
        obtain ⟨D3, G3, e3⟩ := ih (g + 1) (gV_X1_drop V (nI e)) (sD D (701 + 9 * e + 0) 0) G' (by omega) r2 i2 (by omega)
        refine ⟨D3, G3, ?_⟩
        simp only [h.f18, Option.bind_some, w_entryAt _ e 0 (show (0 : Int32) = nI 0 from rfl), asI_I, h.stD _ _ (show nI (701 + 9 * e + 0) = nI (701 + 9 * e + 0) from rfl) (show 701 + 9 * e + 0 < 1853 by omega), rF_sD, h.kt, if_true, lf, nI_1]
        exact e3

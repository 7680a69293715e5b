/-! The longest unused entry on both sides; some are trimmed. -/
theorem RelB.th1 {U : NodV} {V : MemV} {H : OneV} {D : RowV} {n : Nat} (b : RelB U V H D n) {e : Nat} (he : e < 64) (h : ¬ V 1 e = 0) : D (701 + 9 * e + 0) = 1 := by
  rw [b.th e (by omega), if_pos ⟨he, h⟩]
theorem RelB.th0 {U : NodV} {V : MemV} {H : OneV} {D : RowV} {n : Nat} (b : RelB U V H D n) {e : Nat} (he : e < 128) (h : e < 64 → V 1 e = 0) : D (701 + 9 * e + 0) = 0 := by
  rw [b.th e he, if_neg (fun z => z.2 (h z.1))]
theorem Rel.eqr {wk : Option Nat} {U : NodV} {V : MemV} {H : OneV} {W : WkV} {D : RowV} {n : Nat} (r : Rel wk U V H W D n) (y : Int32) : rtB D y = true ↔ ∃ v, v < 3 ∧ V 9 v = y := by
  unfold rtB rootQ
  constructor
  · intro h
    cases q : fst? (fun v => decide (D (5 + v) = y)) 0 3 with
    | none => rw [q] at h; cases h
    | some v =>
      obtain ⟨_, v3, v4, _⟩ := fst_some q
      have v4 : D (5 + v) = y := by simpa using v4
      exact ⟨v, by omega, by rw [← r.B.rt v (by omega)]; exact v4⟩
  · rintro ⟨v, v3, h⟩
    cases q : fst? (fun v => decide (D (5 + v) = y)) 0 3 with
    | none =>
      have := fst_none q v (Nat.zero_le _) (by omega)
      rw [r.B.rt v v3, h] at this
      simp at this
    | some v => rfl
/-- what may go -/
def Fre (V : MemV) (but : Int32) (k : Nat) : Prop := V 1 k = 1 ∧ V 5 k = 0 ∧ ¬ V 2 k = -1 ∧ ¬ nI k = but
theorem lu_s (V : MemV) (x1 : Int32) (nn k : Nat) (x2 x3 : Int32) : lp_X1_longestUnused_7 V x1 (nn + 1) k x2 x3 = (if (V 1 k) = 1 then (if (V 5 k) = 0 then (if (V 2 k) = ((-1)) then lp_X1_longestUnused_7 V x1 nn (k + 1) x2 x3 else (if (nI k) = x1 then lp_X1_longestUnused_7 V x1 nn (k + 1) x2 x3 else (if x2 = ((-1)) then lp_X1_longestUnused_7 V x1 nn (k + 1) (nI k) (V 7 k) else (if x3 ≤ (V 7 k) then lp_X1_longestUnused_7 V x1 nn (k + 1) x2 x3 else lp_X1_longestUnused_7 V x1 nn (k + 1) (nI k) (V 7 k))))) else lp_X1_longestUnused_7 V x1 nn (k + 1) x2 x3) else lp_X1_longestUnused_7 V x1 nn (k + 1) x2 x3) := rfl
def LuP (V : MemV) (but : Int32) (nn k : Nat) (x2 y : Int32) : Prop := (y = -1 ∨ ∃ q, q < 64 ∧ y = nI q ∧ Fre V but q) ∧ (y = -1 → x2 = -1 ∧ ∀ j, k ≤ j → j < k + nn → ¬ Fre V but j)
theorem lu_free (V : MemV) (but : Int32) : ∀ (nn k : Nat) (x2 x3 : Int32), k + nn ≤ 64 → (x2 = -1 ∨ ∃ q, q < 64 ∧ x2 = nI q ∧ Fre V but q) → LuP V but nn k x2 (lp_X1_longestUnused_7 V but nn k x2 x3)
  | 0, k, x2, x3, _, h => ⟨h, fun q => ⟨q, fun j h1 h2 => by omega⟩⟩
  | nn + 1, k, x2, x3, hk, h => by
    have skip : ¬ Fre V but k → lp_X1_longestUnused_7 V but (nn + 1) k x2 x3 = lp_X1_longestUnused_7 V but nn (k + 1) x2 x3 → LuP V but (nn + 1) k x2 (lp_X1_longestUnused_7 V but (nn + 1) k x2 x3) := fun nf eq => by
      have ih := lu_free V but nn (k + 1) x2 x3 (by omega) h
      rw [eq]
      refine ⟨ih.1, fun q => ⟨(ih.2 q).1, fun j h1 h2 => ?_⟩⟩
      by_cases c : j = k
      · rw [c]; exact nf
      · exact (ih.2 q).2 j (by omega) (by omega)
    by_cases a : V 1 k = 1
    · by_cases b : V 5 k = 0
      · by_cases c : V 2 k = -1
        · exact skip (fun z => z.2.2.1 c) (by rw [lu_s, if_pos a, if_pos b, if_pos c])
        · by_cases d : nI k = but
          · exact skip (fun z => z.2.2.2 d) (by rw [lu_s, if_pos a, if_pos b, if_neg c, if_pos d])
          · have fr : Fre V but k := ⟨a, b, c, d⟩
            have ih := lu_free V but nn (k + 1) (nI k) (V 7 k) (by omega) (Or.inr ⟨k, by omega, rfl, fr⟩)
            have no : ¬ nI k = -1 := nI_m1 (by omega)
            rw [lu_s, if_pos a, if_pos b, if_neg c, if_neg d]
            by_cases e : x2 = -1
            · rw [if_pos e]
              exact ⟨ih.1, fun q => absurd (ih.2 q).1 no⟩
            · rw [if_neg e]
              by_cases f : x3 ≤ V 7 k
              · rw [if_pos f]
                have ih2 := lu_free V but nn (k + 1) x2 x3 (by omega) h
                exact ⟨ih2.1, fun q => absurd (ih2.2 q).1 e⟩
              · rw [if_neg f]
                exact ⟨ih.1, fun q => absurd (ih.2 q).1 no⟩
      · exact skip (fun z => b z.2.1) (by rw [lu_s, if_pos a, if_neg b])
    · exact skip (fun z => a z.1) (by rw [lu_s, if_neg a])
theorem lu_q (V : MemV) (but : Int32) : (q_X1_longestUnused V but = -1 ∧ ∀ j, j < 64 → ¬ Fre V but j) ∨ ∃ q, q < 64 ∧ q_X1_longestUnused V but = nI q ∧ Fre V but q := by
  have := lu_free V but 64 0 (-1) 0 (by omega) (Or.inl rfl)
  rcases this.1 with q | q
  · exact Or.inl ⟨q, fun j hj => (this.2 q).2 j (Nat.zero_le _) (by omega)⟩
  · exact Or.inr q
theorem Inv.hz {U : NodV} {V : MemV} {H : OneV} {W : WkV} {n vol t T : Nat} {x : Nat → Nat} (i : Inv U V H W n vol t T x) {e : Nat} (he : e < 64) (h1 : ¬ V 1 e = 0) : V 5 e = 0 ↔ hc V H W e = 0 ∧ x e = 0 := by
  have hL := i.L e he
  have hl := i.hle e
  rw [(hL.2.2 h1).1]
  constructor
  · intro q
    have : hc V H W e + x e = 0 := (nI_eq (by omega) (by omega)).mp (q.trans nI_0.symm)
    omega
  · intro q
    rw [q.1, q.2]
    rfl
theorem Rel.leastFree {wk : Option Nat} {U : NodV} {V : MemV} {H : OneV} {W : WkV} {D : RowV} {n vol t T : Nat} {x : Nat → Nat} (r : Rel wk U V H W D n) (i : Inv U V H W n vol t T x) {J : MJ} (h : RefL J) (I : MI) (hb : HB (I 188 20) x) (G : RowV) (c : Int32) (but : Int32) (hp : ∀ e, e < 64 → ¬ nI e = but → pnd wk V W e = 0) : ∃ G', M_X10_leastFree [mR (some 188), mI but] (rF I D G c, J) = some (some (mI (q_X1_longestUnused V but)), (rF I D G' c, J)) := by
  obtain ⟨G', g1, g2⟩ := r.counts i h I hb G c
  refine ⟨G', ?_⟩
  rw [E_X10_leastFree]
  simp only [h.kt, if_true, g1, Option.bind_some, asV_n]
  have first : ∀ (nn k : Nat) (x2 x3 : Int32), k + nn = 64 → (x2 = -1 ∨ ∃ q, q < 64 ∧ x2 = nI q ∧ ¬ V 1 q = 0 ∧ x3 = V 7 q) → Ev T_X10_leastFree 8 [some (mR (some 188)), some (mI but), some (mI x2), some (mI (nI k))] [] (rF I D G' c, J) = Ev T_X10_leastFree 8 [some (mR (some 188)), some (mI but), some (mI (lp_X1_longestUnused_7 V but nn k x2 x3)), some (mI (nI 64))] [] (rF I D G' c, J) := by
    intro nn
    induction nn with
    | zero =>
      intro k x2 x3 hk _
      have : k = 64 := by omega
      subst this
      rfl
    | succ nn ih =>
      intro k x2 x3 hk hx
      have hk64 : k < 64 := by omega
      rw [E_X10_leastFree_8, if_neg (show ¬ (128 : Int32) ≤ nI k from nI_ge (b := 128) (by omega) (by decide))]
      simp only [h.kt, if_true, w_its h _ 0 (show (0 : Int32) = nI 0 from rfl) (show k < 128 by omega) (by decide), w_its h _ 5 (show (5 : Int32) = nI 5 from rfl) (show k < 128 by omega) (by decide), w_isRootB h, h.f19, h.ldG _ rfl (show k < 128 by omega), Option.bind_some, asI_I, rF_D, rF_G, nI_1]
      rw [lu_s]
      rcases i.M.st k hk64 with s | s | s
      · rw [r.B.th0 (by omega) (fun _ => s), if_pos rfl, if_neg (by rw [s]; exact i01)]
        exact ih (k + 1) x2 x3 (by omega) hx
      · have s0 : ¬ V 1 k = 0 := by rw [s]; exact i10
        rw [r.B.th1 hk64 s0, if_neg i10, if_pos s]
        have nx := ih (k + 1) x2 x3 (by omega) hx
        by_cases b : nI k = but
        · rw [if_pos b]
          by_cases v5 : V 5 k = 0
          · rw [if_pos v5]
            by_cases v2 : V 2 k = -1
            · rw [if_pos v2]; exact nx
            · rw [if_neg v2, if_pos b]; exact nx
          · rw [if_neg v5]; exact nx
        · rw [if_neg b, g2 k hk64 s0, hp k hk64 b, Nat.add_zero]
          have hl := i.hle k
          have hL := i.L k hk64
          by_cases v5 : V 5 k = 0
          · have z := (i.hz hk64 s0).mp v5
            rw [z.1, z.2, if_neg (show ¬ (0 : Int32) < nI (0 + 0) by decide), if_pos v5]
            by_cases v2 : V 2 k = -1
            · obtain ⟨v, v3, v4⟩ := i.M.ro k hk64 s v2
              rw [if_pos v2, if_pos ((r.eqr (nI k)).mpr ⟨v, v3, v4⟩), if_neg i10]
              exact nx
            · have nr : ¬ rtB D (nI k) = true := by
                rw [r.eqr]
                rintro ⟨v, v3, v4⟩
                rcases i.M.rt v v3 with ⟨y, _⟩ | ⟨_, q, q64, y1, y2, y3, _⟩
                · rw [y] at v4
                  exact nI_m1 (show k < 2 ^ 31 by omega) v4.symm
                · have : q = k := (nI_eq (by omega) (by omega)).mp (y1.symm.trans v4)
                  rw [this] at y3
                  exact v2 y3
              rw [if_neg nr, if_pos rfl, if_neg v2, if_neg b]
              have nk := ih (k + 1) (nI k) (V 7 k) (by omega) (Or.inr ⟨k, hk64, rfl, s0, rfl⟩)
              by_cases a : x2 = -1
              · rw [if_pos a, if_pos a]
                exact nk
              · rw [if_neg a, if_neg a]
                rcases hx with hx | ⟨q, q1, q2, q3, q4⟩
                · exact absurd hx a
                · subst q2 q4
                  simp only [w_its h _ 5 (show (5 : Int32) = nI 5 from rfl) (show q < 128 by omega) (by decide), Option.bind_some, asI_I, rF_D]
                  rw [(r.B.en q q1 q3).2.2.2.2.1, (r.B.en k hk64 s0).2.2.2.2.1]
                  by_cases f : V 7 q ≤ V 7 k
                  · rw [if_pos f, if_pos f]; exact nx
                  · rw [if_neg f, if_neg f]; exact nk
          · have z : 0 < hc V H W k + x k := by
              rcases Nat.eq_zero_or_pos (hc V H W k + x k) with y | y
              · exact absurd ((i.hz hk64 s0).mpr (by omega)) v5
              · exact y
            rw [if_pos (show (0 : Int32) < nI (hc V H W k + x k) by rw [← nI_0]; exact nI_lt z (by omega)), if_neg v5]
            exact nx
      · have s0 : ¬ V 1 k = 0 := by rw [s]; exact i20
        have nx := ih (k + 1) x2 x3 (by omega) hx
        rw [r.B.th1 hk64 s0, if_neg i10, if_neg (show ¬ V 1 k = 1 by rw [s]; decide)]
        by_cases b : nI k = but
        · rw [if_pos b]; exact nx
        · have hl := i.hle k
          have hL := (i.L k hk64)
          have z := (hL.2.2 s0).2 s
          rw [if_neg b, g2 k hk64 s0, hp k hk64 b, Nat.add_zero, if_pos (show (0 : Int32) < nI (hc V H W k + x k) by rw [← nI_0]; exact nI_lt z (by omega))]
          exact nx
  have second : ∀ (nn k : Nat) (x2 : Int32), 64 ≤ k → k + nn = 128 → Ev T_X10_leastFree 8 [some (mR (some 188)), some (mI but), some (mI x2), some (mI (nI k))] [] (rF I D G' c, J) = some (some (mI x2), (rF I D G' c, J)) := by
    intro nn
    induction nn with
    | zero =>
      intro k x2 _ hk
      have : k = 128 := by omega
      subst this
      rw [E_X10_leastFree_8, if_pos (show (128 : Int32) ≤ nI 128 by decide)]
    | succ nn ih =>
      intro k x2 h64 hk
      rw [E_X10_leastFree_8, if_neg (show ¬ (128 : Int32) ≤ nI k from nI_ge (b := 128) (by omega) (by decide))]
      simp only [h.kt, if_true, w_its h _ 0 (show (0 : Int32) = nI 0 from rfl) (show k < 128 by omega) (by decide), Option.bind_some, asI_I, rF_D, nI_1]
      rw [r.B.th0 (by omega) (fun z => by omega), if_pos rfl]
      exact ih (k + 1) x2 (by omega) (by omega)
  have f := first 64 0 (-1) 0 (by omega) (Or.inl rfl)
  rw [show (nI 0) = 0 from rfl] at f
  rw [f, second 64 64 _ (Nat.le_refl _) (by omega)]
  rfl
theorem cov_fr {V V' : MemV} (h : V' 10 = V 10) (y : Int32) : q_X1_coveringVolume V' y = q_X1_coveringVolume V y := by
  unfold q_X1_coveringVolume ql_X1_coveringVolume f_X1_coveringVolume
  rw [h]
/-- the walkers' part, where nothing of it changes -/
theorem Rel.fr {wk : Option Nat} {U U' : NodV} {V V' : MemV} {H H' : OneV} {W : WkV} {D D' : RowV} {n n' : Nat} (r : Rel wk U V H W D n) (b : RelB U' V' H' D' n') (hd : ∀ i, 17 ≤ i → i < 401 → D' i = D i) (ht : ∀ k, wk = some k → V' 0 16 = V 0 16 ∧ V' 11 = V 11 ∧ ∀ e m tl j, RelT (W k) V D k m tl → j < tl → V 11 j = nI e → e < 64 → V' 8 e = V 8 e ∧ V' 6 e = V 6 e) : Rel wk U' V' H' W D' n' := by
  refine ⟨b, fun k hk => ?_, fun k hk q1 q2 => ?_, fun k hk => ?_⟩
  · have a := r.K k hk
    refine ⟨?_, fun q => ?_, fun q j h1 h2 => ?_, fun q j h1 h2 => ?_⟩
    · rw [hd _ (by omega) (by omega)]; exact a.ws
    · rw [hd _ (by omega) (by omega), hd _ (by omega) (by omega), hd _ (by omega) (by omega), hd _ (by omega) (by omega)]
      exact a.un q
    · rw [hd _ (by omega) (by omega)]
      exact a.sp q j h1 h2
    · rw [hd _ (by omega) (by omega), hd _ (by omega) (by omega), hd _ (by omega) (by omega)]
      exact a.wy q j h1 h2
  · exact ⟨by rw [hd _ (by omega) (by omega)]; exact r.M k hk q1 q2, r.R2 k hk q1 q2⟩
  · obtain ⟨k4, m, tl, hT⟩ := r.T k hk
    obtain ⟨y1, y2, y3⟩ := ht k hk
    refine ⟨k4, m, tl, hT.1, hT.2.1, ?_, hT.2.2.2.1, hT.2.2.2.2.1, ?_, fun j hj => ?_⟩
    · rw [y1]; exact hT.2.2.1
    · rw [hd _ (by omega) (by omega)]; exact hT.2.2.2.2.2.1
    · obtain ⟨e, e1, e2, e3, e4, e5⟩ := hT.2.2.2.2.2.2 j hj
      have b1 := hT.2.2.2.2.1
      have z := y3 e m tl j hT hj e2 e1
      refine ⟨e, e1, ?_, ?_, ?_, ?_⟩
      · rw [y2]; exact e2
      · rw [hd _ (by omega) (by omega)]; exact e3
      · rw [hd _ (by omega) (by omega), z.1]; exact e4
      · rw [hd _ (by omega) (by omega), z.2]; exact e5
def trV (V : MemV) (e : Nat) : MemV := uv (gV_X1_drop V (nI e)) 0 14 ((gV_X1_drop V (nI e)) 0 14 + 1)
def trD (D : RowV) (e : Nat) : RowV := sD (sD D (701 + 9 * e + 0) 0) 2 (D 2 + 1)
theorem trV_k (V : MemV) (e : Nat) (r : Fin 12) (h0 : r ≠ 0) (h1 : r ≠ 1) (h5 : r ≠ 5) : trV V e r = V r := by
  unfold trV
  rw [uv_k _ _ _ _ _ h0, dr_k _ _ _ h1 h5]
theorem trV_1 (V : MemV) {e : Nat} (he : e < 64) (j : Nat) : trV V e 1 j = if j = e then 0 else V 1 j := by
  unfold trV
  rw [uv_k _ _ _ _ _ (by decide), dr_1 V he]
theorem trV_0 (V : MemV) (e k : Nat) (h : k ≠ 14) : trV V e 0 k = V 0 k := by
  unfold trV
  rw [uv_n _ _ _ _ _ _ (fun q => h q.2), dr_k _ _ _ (by decide) (by decide)]
theorem trV_14 (V : MemV) (e : Nat) : trV V e 0 14 = V 0 14 + 1 := by
  unfold trV
  rw [uv_s, dr_k _ _ _ (by decide) (by decide)]
theorem Rel.trd {wk : Option Nat} {U : NodV} {V : MemV} {H : OneV} {W : WkV} {D : RowV} {n : Nat} (r : Rel wk U V H W D n) (n60 : n ≤ 60) {e : Nat} (he : e < 64) : Rel wk U (trV V e) H W (trD D e) n := by
  have o : ∀ i, i ≠ 2 → i ≠ 701 + 9 * e + 0 → trD D e i = D i := fun i h1 h2 => by
    unfold trD
    rw [sD_n _ _ h1, sD_n _ _ h2]
  have k := trV_k V e
  have b := r.B
  refine r.fr ⟨?_, ?_, ?_, ?_, ?_, ?_, ?_, ?_, ?_, ?_, ?_⟩ (fun i h1 h2 => o i (by omega) (by omega)) (fun _ _ => ⟨trV_0 V e _ (by decide), k 11 (by decide) (by decide) (by decide), fun f _ _ _ _ _ _ _ => ⟨by rw [k 8 (by decide) (by decide) (by decide)], by rw [k 6 (by decide) (by decide) (by decide)]⟩⟩)
  · rw [o 0 (by decide) (by omega), trV_0 V e _ (by decide)]; exact b.tk
  · rw [o 1 (by decide) (by omega), trV_0 V e _ (by decide)]; exact b.lo
  · rw [trV_14, ← b.tr]
    unfold trD
    rw [sD_s]
  · rw [o 3 (by decide) (by omega), trV_0 V e _ (by decide)]; exact b.rm
  · rw [o 4 (by decide) (by omega)]; exact b.ev
  · intro v hv
    rw [o _ (by omega) (by omega), k 9 (by decide) (by decide) (by decide)]; exact b.rt v hv
  · intro v hv
    rw [o _ (by omega) (by omega), k 10 (by decide) (by decide) (by decide)]; exact b.ov v hv
  · intro v hv
    rw [o _ (by omega) (by omega)]; exact b.ha v hv
  · intro j hj
    rw [o _ (by omega) (by omega), o _ (by omega) (by omega), o _ (by omega) (by omega), o _ (by omega) (by omega), o _ (by omega) (by omega)]
    exact b.nd j hj
  · intro f hf
    rw [trV_1 V he]
    by_cases q : f = e
    · subst q
      rw [if_pos rfl, if_neg (fun z => z.2 rfl)]
      unfold trD
      rw [sD_n _ _ (by omega), sD_s]
    · rw [if_neg q, o _ (by omega) (by omega)]
      exact b.th f hf
  · intro f hf q
    rw [trV_1 V he] at q
    by_cases z : f = e
    · rw [if_pos z] at q
      exact absurd rfl q
    · rw [if_neg z] at q
      rw [o _ (by omega) (by omega), o _ (by omega) (by omega), o _ (by omega) (by omega), o _ (by omega) (by omega), o _ (by omega) (by omega), o _ (by omega) (by omega), o _ (by omega) (by omega), o _ (by omega) (by omega), k 2 (by decide) (by decide) (by decide), k 3 (by decide) (by decide) (by decide), k 4 (by decide) (by decide) (by decide), k 6 (by decide) (by decide) (by decide), k 7 (by decide) (by decide) (by decide), k 8 (by decide) (by decide) (by decide), trV_1 V he, if_neg z, cov_fr (k 10 (by decide) (by decide) (by decide))]
      exact b.en f hf q
theorem Inv.trd {U : NodV} {V : MemV} {H : OneV} {W : WkV} {n vol t T : Nat} {x : Nat → Nat} (i : Inv U V H W n vol t T x) {e : Nat} (he : e < 64) {but : Int32} (hf : Fre V but e) : Inv U (trV V e) H W n vol t T x := by
  have s0 : ¬ V 1 e = 0 := by rw [hf.1]; exact i10
  have z := (i.hz he s0).mp hf.2.1
  have d := i.drop he hf.1 hf.2.2.1 z.1 z.2
  have k : ∀ r : Fin 12, r ≠ 0 → trV V e r = gV_X1_drop V (nI e) r := fun r h => uv_k _ _ _ _ _ h
  refine d.frz (k 1 (by decide)) (k 2 (by decide)) (k 3 (by decide)) (k 4 (by decide)) (k 5 (by decide)) (k 6 (by decide)) (k 8 (by decide)) (k 9 (by decide)) (k 10 (by decide)) ?_ ?_ (Nat.le_refl _) (Nat.le_refl _) d.Z.tT d.Z.T30 (i.Z.tri.trm (trV_14 V e) he s0 (by rw [trV_1 V he, if_pos rfl]) (fun k q => by rw [trV_1 V he, if_neg q]))
  · rw [trV_0 V e _ (by decide), dr_k _ _ _ (by decide) (by decide)]
  · rw [trV_0 V e _ (by decide)]; exact i.Z.tk

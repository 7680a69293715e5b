/-! So many are trimmed, on both sides. -/
def nc (V : MemV) : Nat := cnt (fun k => decide (¬ V 1 k = 0)) 0 64
theorem nc_tr {V : MemV} {e : Nat} (he : e < 64) (h : ¬ V 1 e = 0) : nc (trV V e) + 1 = nc V := by
  have c := cnt_one (P := fun k => decide (¬ V 1 k = 0)) (P' := fun k => decide (¬ trV V e 1 k = 0)) (e := e) (n := 64) (k := 0) (Nat.zero_le _) (by omega) (fun j _ _ q => by rw [trV_1 V he, if_neg q])
  rw [trV_1 V he, if_pos rfl, if_pos (show decide (¬ V 1 e = 0) = true by simpa using h)] at c
  unfold nc
  simpa using c
/-- what trimming leaves as it is -/
def Tsm (V V' : MemV) : Prop := (∀ r : Fin 12, r ≠ 0 → r ≠ 1 → r ≠ 5 → V' r = V r) ∧ (∀ k, k ≠ 14 → V' 0 k = V 0 k) ∧ ∀ e, e < 64 → V' 1 e = 0 ∨ V' 1 e = V 1 e
theorem Tsm.refl (V : MemV) : Tsm V V := ⟨fun _ _ _ _ => rfl, fun _ _ => rfl, fun _ _ => Or.inr rfl⟩
theorem Tsm.trans {V V' V'' : MemV} (h : Tsm V V') (h' : Tsm V' V'') : Tsm V V'' :=
  ⟨fun r a b c => (h'.1 r a b c).trans (h.1 r a b c), fun k a => (h'.2.1 k a).trans (h.2.1 k a), fun e he => by
    rcases h'.2.2 e he with q | q
    · exact Or.inl q
    · rw [q]; exact h.2.2 e he⟩
theorem Tsm.tr (V : MemV) {e : Nat} (he : e < 64) : Tsm V (trV V e) :=
  ⟨trV_k V e, trV_0 V e, fun f hf => by
    rw [trV_1 V he]
    split
    · exact Or.inl rfl
    · exact Or.inr rfl⟩
theorem pnd_fr {wk : Option Nat} {V V' : MemV} {W : WkV} (h1 : V' 0 16 = V 0 16) (h2 : V' 11 = V 11) (e : Nat) : pnd wk V' W e = pnd wk V W e := by
  unfold pnd
  cases wk with
  | none => rfl
  | some k => rw [h1, h2]
theorem trim_same (x1 x2 : Int32) (y : Int32) : ∀ (nn k : Nat) (V : MemV), lp_X1_trimSome_7 x1 x2 nn k V = (lp_X1_shrink_12 (-1) y nn k V 0 14 - x2, lp_X1_shrink_12 (-1) y nn k V)
  | 0, k, V => rfl
  | nn + 1, k, V => by
    unfold lp_X1_trimSome_7 lp_X1_shrink_12
    by_cases q : q_X1_longestUnused V (-1) = -1
    · rw [if_pos q, if_pos q]
    · rw [if_neg q, if_neg q, trim_same x1 x2 y nn (k + 1)]
theorem trims_loop {wk : Option Nat} {U : NodV} {H : OneV} {W : WkV} {n vol t T : Nat} {x : Nat → Nat} {J : MJ} (h : RefL J) (I : MI) (hb : HB (I 188 20) x) (c : Int32) (but y : Int32) {N : Nat} (hN : N < 1000) : ∀ (nn k : Nat) (V : MemV) (D G : RowV), k + nn = N → Rel wk U V H W D n → Inv U V H W n vol t T x → (∀ e, e < 64 → ¬ nI e = but → pnd wk V W e = 0) → ∃ D' G' k', Ev T_X10_trims 17 [some (mR (some 188)), some (mI (nI N)), some (mI but), some (mI (nI k)), some (mI (if nn = 0 then -1 else q_X1_longestUnused V but))] [] (rF I D G c, J) = some (some (mI (nI k')), (rF I D' G' c, J)) ∧ Rel wk U (lp_X1_shrink_12 but y nn k V) H W D' n ∧ Inv U (lp_X1_shrink_12 but y nn k V) H W n vol t T x ∧ Tsm V (lp_X1_shrink_12 but y nn k V) ∧ (∀ b, b < 64 → but = nI b → lp_X1_shrink_12 but y nn k V 1 b = V 1 b) ∧ lp_X1_shrink_12 but y nn k V 0 14 = V 0 14 + nI (k' - k) ∧ k ≤ k' ∧ nc (lp_X1_shrink_12 but y nn k V) + (k' - k) = nc V ∧ (k' = N ∨ ∀ j, j < 64 → ¬ Fre (lp_X1_shrink_12 but y nn k V) but j) := by
  intro nn
  induction nn with
  | zero =>
    intro k V D G hk r i hp
    rw [if_pos rfl]
    refine ⟨D, G, k, ?_, r, i, Tsm.refl V, fun _ _ _ => rfl, ?_, Nat.le_refl _, ?_, Or.inl (by omega)⟩
    · rw [E_X10_trims_17, if_pos rfl]
    · show V 0 14 = V 0 14 + nI (k - k)
      rw [Nat.sub_self, nI_0, Int32.add_zero]
    · show nc V + (k - k) = nc V
      rw [Nat.sub_self, Nat.add_zero]
  | succ nn ih =>
    intro k V D G hk r i hp
    rw [if_neg (Nat.succ_ne_zero nn)]
    rcases lu_q V but with ⟨q1, q2⟩ | ⟨e, e64, q1, q2⟩
    · have ev : lp_X1_shrink_12 but y (nn + 1) k V = V := by
        unfold lp_X1_shrink_12
        rw [if_pos q1]
      rw [ev]
      refine ⟨D, G, k, ?_, r, i, Tsm.refl V, fun _ _ _ => rfl, ?_, Nat.le_refl _, ?_, Or.inr q2⟩
      · rw [q1, E_X10_trims_17, if_pos rfl]
      · rw [Nat.sub_self, nI_0, Int32.add_zero]
      · rw [Nat.sub_self, Nat.add_zero]
    · have ne : ¬ nI e = -1 := nI_m1 (by omega)
      have s0 : ¬ V 1 e = 0 := by rw [q2.1]; exact i10
      have ev : lp_X1_shrink_12 but y (nn + 1) k V = lp_X1_shrink_12 but y nn (k + 1) (trV V e) := by
        show (if q_X1_longestUnused V but = -1 then V else _) = _
        rw [q1, if_neg ne]
        rfl
      have r' := r.trd i.N.n60 e64
      have i' := i.trd e64 q2
      have hp' : ∀ f, f < 64 → ¬ nI f = but → pnd wk (trV V e) W f = 0 := fun f h1 h2 => by
        rw [pnd_fr (trV_0 V e _ (by decide)) (trV_k V e _ (by decide) (by decide) (by decide))]
        exact hp f h1 h2
      have st : ∀ G, Ev T_X10_trims 17 [some (mR (some 188)), some (mI (nI N)), some (mI but), some (mI (nI k)), some (mI (nI e))] [] (rF I D G c, J) = if nI N ≤ nI (k + 1) then Ev T_X10_trims 17 [some (mR (some 188)), some (mI (nI N)), some (mI but), some (mI (nI (k + 1))), some (mI (-1))] [] (rF I (trD D e) G c, J) else (M_X10_leastFree [mR (some 188), mI but] (rF I (trD D e) G c, J)).bind fun u11 => (asI u11.1).bind fun y12 => Ev T_X10_trims 17 [some (mR (some 188)), some (mI (nI N)), some (mI but), some (mI (nI (k + 1))), some (mI y12)] [] u11.2 := by
        intro G
        have d2 : sD D (701 + 9 * e + 0) 0 2 = D 2 := sD_n _ _ (by omega)
        rw [E_X10_trims_17, if_neg ne]
        simp only [h.f18, Option.bind_some, w_entryAt _ e 0 (show (0 : Int32) = nI 0 from rfl), asI_I, h.stD _ _ rfl (show 701 + 9 * e + 0 < 1853 by omega), rF_sD, h.ldD _ (show (2 : Int32) = nI 2 from rfl) (by decide), rF_D, h.stD _ _ (show (2 : Int32) = nI 2 from rfl) (by decide), h.kt, if_true, nI_1, d2]
        rfl
      rw [ev, q1]
      have hk1 : k + 1 ≤ N := by omega
      by_cases z : nn = 0
      · obtain ⟨D', G', k', s1, s2, s3, s4, s5, s6, s7, s8, s9⟩ := ih (k + 1) (trV V e) (trD D e) G (by omega) r' i' hp'
        rw [if_pos z] at s1
        refine ⟨D', G', k', ?_, s2, s3, (Tsm.tr V e64).trans s4, ?_, ?_, by omega, ?_, s9⟩
        · rw [st, if_pos (nI_le (by omega) (by omega))]
          exact s1
        · intro b b64 hb2
          rw [s5 b b64 hb2, trV_1 V e64, if_neg (fun q => q2.2.2.2 (by rw [hb2, q]))]
        · rw [s6, trV_14, Int32.add_assoc, show (1 : Int32) = nI 1 from rfl, nI_add, show 1 + (k' - (k + 1)) = k' - k by omega]
        · have := nc_tr e64 s0
          omega
      · obtain ⟨G1, g1⟩ := r'.leastFree i' h I hb G c but hp'
        obtain ⟨D', G', k', s1, s2, s3, s4, s5, s6, s7, s8, s9⟩ := ih (k + 1) (trV V e) (trD D e) G1 (by omega) r' i' hp'
        rw [if_neg z] at s1
        refine ⟨D', G', k', ?_, s2, s3, (Tsm.tr V e64).trans s4, ?_, ?_, by omega, ?_, s9⟩
        · rw [st, if_neg (nI_ge (by omega) (by omega)), g1]
          simp only [Option.bind_some, asI_I]
          exact s1
        · intro b b64 hb2
          rw [s5 b b64 hb2, trV_1 V e64, if_neg (fun q => q2.2.2.2 (by rw [hb2, q]))]
        · rw [s6, trV_14, Int32.add_assoc, show (1 : Int32) = nI 1 from rfl, nI_add, show 1 + (k' - (k + 1)) = k' - k by omega]
        · have := nc_tr e64 s0
          omega
theorem Rel.trims {wk : Option Nat} {U : NodV} {V : MemV} {H : OneV} {W : WkV} {D : RowV} {n vol t T : Nat} {x : Nat → Nat} (r : Rel wk U V H W D n) (i : Inv U V H W n vol t T x) {J : MJ} (h : RefL J) (I : MI) (hb : HB (I 188 20) x) (G : RowV) (c : Int32) (but y x1 : Int32) (hx : ix x1 < 1000) (hp : ∀ e, e < 64 → ¬ nI e = but → pnd wk V W e = 0) : ∃ D' G' k', M_X10_trims [mR (some 188), mI x1, mI but] (rF I D G c, J) = some (some (mI (nI k')), (rF I D' G' c, J)) ∧ Rel wk U (lp_X1_shrink_12 but y (ix x1) 0 V) H W D' n ∧ Inv U (lp_X1_shrink_12 but y (ix x1) 0 V) H W n vol t T x ∧ Tsm V (lp_X1_shrink_12 but y (ix x1) 0 V) ∧ (∀ b, b < 64 → but = nI b → lp_X1_shrink_12 but y (ix x1) 0 V 1 b = V 1 b) ∧ lp_X1_shrink_12 but y (ix x1) 0 V 0 14 = V 0 14 + nI k' ∧ nc (lp_X1_shrink_12 but y (ix x1) 0 V) + k' = nc V ∧ (k' = ix x1 ∨ ∀ j, j < 64 → ¬ Fre (lp_X1_shrink_12 but y (ix x1) 0 V) but j) := by
  rw [E_X10_trims]
  by_cases z : x1 ≤ 0
  · have z0 : ix x1 = 0 := by
      have := i32_le.mp z
      have e0 : (0 : Int32).toInt = 0 := rfl
      show x1.toInt.toNat = 0
      omega
    rw [if_pos z, z0]
    refine ⟨D, G, 0, ?_, r, i, Tsm.refl V, fun _ _ _ => rfl, ?_, Nat.add_zero _, Or.inl rfl⟩
    · rw [E_X10_trims_17, if_pos rfl]
      rfl
    · show V 0 14 = V 0 14 + nI 0
      rw [nI_0, Int32.add_zero]
  · rw [if_neg z]
    obtain ⟨G1, g1⟩ := r.leastFree i h I hb G c but hp
    have xe : x1 = nI (ix x1) := nI_ix (fun q => z (Int32.le_of_lt q))
    have nz : ¬ ix x1 = 0 := fun q => z (by rw [xe, q]; exact Int32.le_refl _)
    obtain ⟨D', G', k', s1, s2, s3, s4, s5, s6, s7, s8, s9⟩ := trims_loop h I hb c but y hx (ix x1) 0 V D G1 (by omega) r i hp
    rw [if_neg nz, ← xe] at s1
    refine ⟨D', G', k', ?_, s2, s3, s4, s5, ?_, ?_, s9⟩
    · simp only [h.kt, if_true, g1, Option.bind_some, asI_I]
      exact s1
    · rw [s6, Nat.sub_zero]
    · rw [Nat.sub_zero] at s8
      exact s8

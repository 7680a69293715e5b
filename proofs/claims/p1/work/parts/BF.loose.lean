/-! More room changes nothing where nothing had to be given up. -/
def lm (V : MemV) (L : Int32) : MemV := uv V 0 11 L
theorem lm_q (V : MemV) (L : Int32) {q : Fin 12} (h : q ≠ 0) : lm V L q = V q := uv_k _ _ _ _ _ h
theorem lm_0 (V : MemV) (L : Int32) {j : Nat} (h : j ≠ 11) : lm V L 0 j = V 0 j := uv_n _ _ _ _ _ _ (fun q => h q.2)
theorem lm_11 (V : MemV) (L : Int32) : lm V L 0 11 = L := uv_s _ _ _ _
theorem lm_s (V : MemV) (L : Int32) {q : Fin 12} {j : Nat} (v : Int32) (h : ¬ (q = 0 ∧ j = 11)) : uv (lm V L) q j v = lm (uv V q j v) L := by
  funext k i
  unfold lm uv
  by_cases a : k = q ∧ i = j
  · rw [if_pos a, if_neg (fun z => h ⟨a.1.symm.trans z.1, a.2.symm.trans z.2⟩), if_pos a]
  · by_cases b : k = 0 ∧ i = 11
    · rw [if_neg a, if_pos b, if_pos b]
    · rw [if_neg a, if_neg b, if_neg b, if_neg a]
theorem lm_ite (c : Prop) [Decidable c] (A B : MemV) (L : Int32) : lm (if c then A else B) L = if c then lm A L else lm B L := by split <;> rfl
theorem lm_come (V : MemV) (L x : Int32) : gV_X1_comeTo (lm V L) x = lm (gV_X1_comeTo V x) L := by
  have s7 : ∀ A j v, uv (lm A L) 7 j v = lm (uv A 7 j v) L := fun A j v => lm_s A L v (by simp)
  have s12 : ∀ A v, uv (lm A L) 0 12 v = lm (uv A 0 12 v) L := fun A v => lm_s A L v (by simp)
  have s11 : ∀ A j v, uv (lm A L) 11 j v = lm (uv A 11 j v) L := fun A j v => lm_s A L v (by simp)
  have s16 : ∀ A v, uv (lm A L) 0 16 v = lm (uv A 0 16 v) L := fun A v => lm_s A L v (by simp)
  unfold gV_X1_comeTo
  simp only [lm_0 V L (show (16 : Nat) ≠ 11 by decide), lm_0 V L (show (12 : Nat) ≠ 11 by decide), s7, s12, s11, s16, lm_ite]
theorem lm_hold (V : MemV) (L x : Int32) : gV_X1_hold (lm V L) x = lm (gV_X1_hold V x) L := by
  have s5 : ∀ A j v, uv (lm A L) 5 j v = lm (uv A 5 j v) L := fun A j v => lm_s A L v (by simp)
  unfold gV_X1_hold
  simp only [lm_q V L (show (5 : Fin 12) ≠ 0 by decide), s5, lm_ite]
theorem lm_lu (V : MemV) (L : Int32) : q_X1_leastUnused (lm V L) = q_X1_leastUnused V := by
  unfold q_X1_leastUnused ql_X1_leastUnused f_X1_leastUnused
  rw [lm_q V L (show (1 : Fin 12) ≠ 0 by decide)]
theorem lm_isE (V : MemV) (L x : Int32) : q_X1_isEntry (lm V L) x = q_X1_isEntry V x := isE_cg (lm_q V L (by decide)) x
theorem lm_find (V : MemV) (L x y : Int32) : q_X1_find (lm V L) x y = q_X1_find V x y := by
  unfold q_X1_find ql_X1_find f_X1_find
  rw [lm_isE, lm_q V L (show (1 : Fin 12) ≠ 0 by decide), lm_q V L (show (2 : Fin 12) ≠ 0 by decide), lm_q V L (show (3 : Fin 12) ≠ 0 by decide)]
theorem lm_node (V : MemV) (L x : Int32) : q_X1_nodeOf (lm V L) x = q_X1_nodeOf V x := by
  unfold q_X1_nodeOf
  rw [lm_isE, lm_q V L (show (4 : Fin 12) ≠ 0 by decide)]
theorem lm_fold (U : NodV) (V : MemV) (L x : Int32) : q_X1_isFolder U (lm V L) x = q_X1_isFolder U V x := by
  unfold q_X1_isFolder
  rw [lm_isE, lm_q V L (show (4 : Fin 12) ≠ 0 by decide)]
theorem lm_rv (V : MemV) (L x : Int32) : q_X1_rootVolume (lm V L) x = q_X1_rootVolume V x := by
  unfold q_X1_rootVolume ql_X1_rootVolume f_X1_rootVolume
  rw [lm_q V L (show (9 : Fin 12) ≠ 0 by decide)]
theorem lm_cv (V : MemV) (L x : Int32) : q_X1_coveringVolume (lm V L) x = q_X1_coveringVolume V x := by
  unfold q_X1_coveringVolume ql_X1_coveringVolume f_X1_coveringVolume
  rw [lm_q V L (show (10 : Fin 12) ≠ 0 by decide)]
theorem lm_cb (V : MemV) (L x : Int32) : q_X1_coveredBy (lm V L) x = q_X1_coveredBy V x := by
  unfold q_X1_coveredBy
  rw [lm_q V L (show (10 : Fin 12) ≠ 0 by decide)]
theorem lm_add (V : MemV) (L x y z : Int32) : gV_X1_add (lm V L) x y z = lm (gV_X1_add V x y z) L ∧ q_X1_add (lm V L) x y z = q_X1_add V x y z := by
  have s1 : ∀ A j v, uv (lm A L) 1 j v = lm (uv A 1 j v) L := fun A j v => lm_s A L v (by simp)
  have s2 : ∀ A j v, uv (lm A L) 2 j v = lm (uv A 2 j v) L := fun A j v => lm_s A L v (by simp)
  have s3 : ∀ A j v, uv (lm A L) 3 j v = lm (uv A 3 j v) L := fun A j v => lm_s A L v (by simp)
  have s4 : ∀ A j v, uv (lm A L) 4 j v = lm (uv A 4 j v) L := fun A j v => lm_s A L v (by simp)
  have s5 : ∀ A j v, uv (lm A L) 5 j v = lm (uv A 5 j v) L := fun A j v => lm_s A L v (by simp)
  have s6 : ∀ A j v, uv (lm A L) 6 j v = lm (uv A 6 j v) L := fun A j v => lm_s A L v (by simp)
  have s8 : ∀ A j v, uv (lm A L) 8 j v = lm (uv A 8 j v) L := fun A j v => lm_s A L v (by simp)
  unfold gV_X1_add q_X1_add
  constructor
  · simp only [lm_lu, lm_0 V L (show (12 : Nat) ≠ 11 by decide), s1, s2, s3, s4, s5, s6, s8, lm_hold, lm_come, lm_ite]
  · simp only [lm_lu]
theorem lm_up (V : MemV) (L x : Int32) : gV_X1_stepUp (lm V L) x = lm (gV_X1_stepUp V x) L ∧ q_X1_stepUp (lm V L) x = q_X1_stepUp V x := by
  have r2 : ∀ A, lm A L 2 = A 2 := fun A => lm_q A L (by decide)
  unfold gV_X1_stepUp q_X1_stepUp
  constructor
  · simp only [lm_rv, lm_isE, lm_cb, lm_come, r2, lm_ite]
  · simp only [lm_rv, lm_isE, lm_cb, lm_come, r2]
theorem lm_many (V : MemV) (L : Int32) : q_X1_howManyButRoots (lm V L) = q_X1_howManyButRoots V := by
  unfold q_X1_howManyButRoots ql_X1_howManyButRoots c_X1_howManyButRoots
  rw [lm_q V L (show (1 : Fin 12) ≠ 0 by decide), lm_q V L (show (2 : Fin 12) ≠ 0 by decide)]
theorem lm_long (V : MemV) (L x : Int32) : q_X1_longestUnused (lm V L) x = q_X1_longestUnused V x := by
  have st : ∀ (nn k : Nat) (x2 x3 : Int32), lp_X1_longestUnused_7 (lm V L) x nn k x2 x3 = lp_X1_longestUnused_7 V x nn k x2 x3 := by
    intro nn
    induction nn with
    | zero => intro k x2 x3; rfl
    | succ nn ih =>
      intro k x2 x3
      rw [lp_X1_longestUnused_7, lp_X1_longestUnused_7]
      simp only [lm_q V L (show (1 : Fin 12) ≠ 0 by decide), lm_q V L (show (5 : Fin 12) ≠ 0 by decide), lm_q V L (show (2 : Fin 12) ≠ 0 by decide), lm_q V L (show (7 : Fin 12) ≠ 0 by decide), ih]
  exact st 64 0 (-1) 0
theorem shr_m (x1 x2 : Int32) : ∀ (nn k : Nat) (V : MemV), ∃ m, m ≤ nn ∧ lp_X1_shrink_12 x1 x2 nn k V 0 14 = V 0 14 + nI m ∧ lp_X1_shrink_12 x1 x2 nn k V 0 11 = V 0 11 ∧ (m = 0 → (nn = 0 ∨ q_X1_longestUnused V x1 = -1))
  | 0, k, V => ⟨0, Nat.le_refl _, by
    show V 0 14 = V 0 14 + nI 0
    rw [nI_0, Int32.add_zero], rfl, fun _ => Or.inl rfl⟩
  | nn + 1, k, V => by
    have st : lp_X1_shrink_12 x1 x2 (nn + 1) k V = (if (q_X1_longestUnused V x1) = ((-1)) then (V) else lp_X1_shrink_12 x1 x2 nn (k + 1) (uv (gV_X1_drop V (q_X1_longestUnused V x1)) 0 14 (((gV_X1_drop V (q_X1_longestUnused V x1)) 0 14) + 1))) := rfl
    rw [st]
    by_cases z : q_X1_longestUnused V x1 = -1
    · rw [if_pos z]
      exact ⟨0, Nat.zero_le _, by rw [nI_0, Int32.add_zero], rfl, fun _ => Or.inr z⟩
    · rw [if_neg z]
      obtain ⟨m, a1, a2, a3, _⟩ := shr_m x1 x2 nn (k + 1) (uv (gV_X1_drop V (q_X1_longestUnused V x1)) 0 14 (((gV_X1_drop V (q_X1_longestUnused V x1)) 0 14) + 1))
      refine ⟨m + 1, by omega, ?_, ?_, fun q => by omega⟩
      · rw [a2, uv_s, dr_k _ _ 0 (by decide) (by decide), Int32.add_assoc, Int32.add_comm 1 (nI m), nI_1]
      · rw [a3, uv_n _ _ _ _ _ _ (by decide), dr_k _ _ 0 (by decide) (by decide)]
theorem shr_v (x1 x2 : Int32) {nn : Nat} (k : Nat) {V : MemV} (h : nn = 0 ∨ q_X1_longestUnused V x1 = -1) : lp_X1_shrink_12 x1 x2 nn k V = V := by
  cases nn with
  | zero => rfl
  | succ nn =>
    show (if (q_X1_longestUnused V x1) = ((-1)) then (V) else _) = V
    rw [if_pos (h.resolve_left (by omega))]
theorem ix_sb {c l : Nat} (hc : c < 2 ^ 30) (hl : l < 2 ^ 30) : ix (nI c - nI l) = c - l := by
  show (nI c - nI l).toInt.toNat = c - l
  rw [Int32.toInt_sub, nI_toInt (by omega), nI_toInt (by omega), Int.bmod_eq_of_le (by omega) (by omega)]
  omega
theorem lm_shr {V : MemV} {l l' : Nat} (hl : V 0 11 = nI l) (ll : l ≤ l') (b : l' < 1000) (e : Int32) : ∃ m, m ≤ 64 ∧ gV_X1_shrink V e 0 14 = V 0 14 + nI m ∧ gV_X1_shrink V e 0 11 = V 0 11 ∧ (m = 0 → gV_X1_shrink (lm V (nI l')) e = lm (gV_X1_shrink V e) (nI l')) := by
  have cm : c_X1_howManyButRoots V ≤ 64 := cnt_le _ _ _
  have hq : q_X1_howManyButRoots V = nI (c_X1_howManyButRoots V) := rfl
  have e1 : gV_X1_shrink V e = lp_X1_shrink_12 e ((q_X1_howManyButRoots V) - (V 0 11)) (c_X1_howManyButRoots V - l) 0 V := by
    show lp_X1_shrink_12 e ((q_X1_howManyButRoots V) - (V 0 11)) (ix (((q_X1_howManyButRoots V) - (V 0 11)))) 0 V = _
    rw [hq, hl, ix_sb (by omega) (by omega)]
  have e2 : gV_X1_shrink (lm V (nI l')) e = lp_X1_shrink_12 e ((q_X1_howManyButRoots V) - nI l') (c_X1_howManyButRoots V - l') 0 (lm V (nI l')) := by
    show lp_X1_shrink_12 e ((q_X1_howManyButRoots (lm V (nI l'))) - (lm V (nI l') 0 11)) (ix (((q_X1_howManyButRoots (lm V (nI l'))) - (lm V (nI l') 0 11)))) 0 (lm V (nI l')) = _
    rw [lm_many, lm_11, hq, ix_sb (by omega) (by omega)]
  obtain ⟨m, a1, a2, a3, a4⟩ := shr_m e ((q_X1_howManyButRoots V) - (V 0 11)) (c_X1_howManyButRoots V - l) 0 V
  refine ⟨m, by omega, by rw [e1]; exact a2, by rw [e1]; exact a3, fun q => ?_⟩
  have := a4 q
  rw [e1, shr_v _ _ 0 this, e2]
  refine shr_v _ _ 0 ?_
  rcases this with z | z
  · exact Or.inl (by omega)
  · exact Or.inr (by rw [lm_long]; exact z)
theorem come0 (V : MemV) (x : Int32) {j : Nat} (h12 : j ≠ 12) (h16 : j ≠ 16) : gV_X1_comeTo V x 0 j = V 0 j := by
  unfold gV_X1_comeTo
  split
  · rfl
  · split
    · split
      · simp [uv, h12]
      · split
        · simp [uv, h12]
        · simp [uv, h12, h16]
    · rfl
theorem add0 (V : MemV) (x y z : Int32) {j : Nat} (h12 : j ≠ 12) (h16 : j ≠ 16) : gV_X1_add V x y z 0 j = V 0 j := by
  unfold gV_X1_add
  split
  · rfl
  · split
    · rw [come0 _ _ h12 h16, ho_k _ _ 0 (by decide)]
      simp [uv]
    · rfl
theorem up0 (V : MemV) (x : Int32) {j : Nat} (h12 : j ≠ 12) (h16 : j ≠ 16) : gV_X1_stepUp V x 0 j = V 0 j := by
  unfold gV_X1_stepUp
  split
  · rfl
  · split
    · split
      · rfl
      · split
        · rfl
        · exact come0 _ _ h12 h16
    · split
      · exact come0 _ _ h12 h16
      · split
        · exact come0 _ _ h12 h16
        · rw [come0 _ _ h12 h16, come0 _ _ h12 h16]
theorem lm_reach {U : NodV} {V : MemV} {l l' : Nat} (hl : V 0 11 = nI l) (ll : l ≤ l') (b : l' < 1000) (x s : Int32) : ∃ m, m ≤ 64 ∧ gV_X1_reach U V x s 0 14 = V 0 14 + nI m ∧ gV_X1_reach U V x s 0 11 = nI l ∧ q_X1_reach U (lm V (nI l')) x s = q_X1_reach U V x s ∧ (m = 0 → gV_X1_reach U (lm V (nI l')) x s = lm (gV_X1_reach U V x s) (nI l')) := by
  have qq : q_X1_reach U (lm V (nI l')) x s = q_X1_reach U V x s := by
    unfold q_X1_reach
    simp only [lm_find, lm_node, (lm_add _ _ _ _ _).2]
  have s13 : ∀ A v, uv (lm A (nI l')) 0 13 v = lm (uv A 0 13 v) (nI l') := fun A v => lm_s A _ v (by simp)
  unfold gV_X1_reach
  simp only [lm_find, lm_node, (lm_add _ _ _ _ _).2, (lm_add _ _ _ _ _).1, lm_come, lm_0 _ (nI l') (show (13 : Nat) ≠ 11 by decide), s13]
  by_cases a : q_X1_find V x s = -1
  · simp only [if_pos a]
    by_cases c : q_X1_add V x s (q_X2_find U (q_X1_nodeOf V x) s) = -1
    · simp only [if_pos c]
      exact ⟨0, by omega, by rw [add0 _ _ _ _ (by decide) (by decide), nI_0, Int32.add_zero], by rw [add0 _ _ _ _ (by decide) (by decide)]; exact hl, qq, fun _ => trivial⟩
    · simp only [if_neg c]
      obtain ⟨m, b1, b2, b3, b4⟩ := lm_shr (V := uv (gV_X1_add V x s (q_X2_find U (q_X1_nodeOf V x) s)) 0 13 (((gV_X1_add V x s (q_X2_find U (q_X1_nodeOf V x) s)) 0 13) + 1)) (l := l) (l' := l') (by rw [uv_n _ _ _ _ _ _ (by decide), add0 _ _ _ _ (by decide) (by decide)]; exact hl) ll b (q_X1_add V x s (q_X2_find U (q_X1_nodeOf V x) s))
      refine ⟨m, b1, ?_, ?_, qq, b4⟩
      · rw [b2, uv_n _ _ _ _ _ _ (by decide), add0 _ _ _ _ (by decide) (by decide)]
      · rw [b3, uv_n _ _ _ _ _ _ (by decide), add0 _ _ _ _ (by decide) (by decide)]
        exact hl
  · simp only [if_neg a]
    exact ⟨0, by omega, by rw [come0 _ _ (by decide) (by decide), nI_0, Int32.add_zero], by rw [come0 _ _ (by decide) (by decide)]; exact hl, qq, fun _ => trivial⟩
theorem lm_step {U : NodV} {V : MemV} {l l' : Nat} (hl : V 0 11 = nI l) (ll : l ≤ l') (b : l' < 1000) (x s : Int32) : ∃ m, m ≤ 64 ∧ gV_X1_stepFrom U V x s 0 14 = V 0 14 + nI m ∧ gV_X1_stepFrom U V x s 0 11 = nI l ∧ (m = 0 → gV_X1_stepFrom U (lm V (nI l')) x s = lm (gV_X1_stepFrom U V x s) (nI l') ∧ q_X1_stepFrom U (lm V (nI l')) x s = q_X1_stepFrom U V x s) := by
  have s16 : ∀ A v, uv (lm A (nI l')) 0 16 v = lm (uv A 0 16 v) (nI l') := fun A v => lm_s A _ v (by simp)
  have z14 : uv V 0 16 0 0 14 = V 0 14 := uv_n _ _ _ _ _ _ (by decide)
  have z11 : uv V 0 16 0 0 11 = nI l := by rw [uv_n _ _ _ _ _ _ (by decide)]; exact hl
  have zz : uv V 0 16 0 0 14 = V 0 14 + nI 0 := by rw [z14, nI_0, Int32.add_zero]
  obtain ⟨m, b1, b2, b3, b4, b5⟩ := lm_reach (U := U) z11 ll b x s
  unfold gV_X1_stepFrom q_X1_stepFrom
  rw [s16, lm_fold, (lm_up _ _ _).1, (lm_up _ _ _).2, b4]
  by_cases c1 : s = -1
  · simp only [if_pos c1]
    exact ⟨0, by omega, zz, z11, fun _ => ⟨trivial, trivial⟩⟩
  · simp only [if_neg c1]
    by_cases c2 : s = -2
    · simp only [if_pos c2]
      exact ⟨0, by omega, by rw [up0 _ _ (by decide) (by decide)]; exact zz, by rw [up0 _ _ (by decide) (by decide)]; exact z11, fun _ => ⟨trivial, trivial⟩⟩
    · simp only [if_neg c2]
      by_cases c3 : q_X1_isFolder U (uv V 0 16 0) x = 0
      · simp only [if_pos c3]
        exact ⟨0, by omega, zz, z11, fun _ => ⟨trivial, trivial⟩⟩
      · simp only [if_neg c3]
        rw [z14] at b2
        generalize gV_X1_reach U (uv V 0 16 0) x s = A at b2 b3 b5
        generalize gV_X1_reach U (lm (uv V 0 16 0) (nI l')) x s = A' at b5
        generalize q_X1_reach U (uv V 0 16 0) x s = e
        have r4 : ∀ A, lm A (nI l') 4 = A 4 := fun A => lm_q A _ (by decide)
        have r9 : ∀ A, lm A (nI l') 9 = A 9 := fun A => lm_q A _ (by decide)
        have k14 : ∀ y, gV_X1_comeTo A y 0 14 = A 0 14 := fun y => come0 _ _ (by decide) (by decide)
        have k11 : ∀ y, gV_X1_comeTo A y 0 11 = A 0 11 := fun y => come0 _ _ (by decide) (by decide)
        refine ⟨m, b1, ?_, ?_, fun q => ?_⟩
        · split
          · exact b2
          · split
            · exact b2
            · split
              · exact b2
              · split
                · rw [k14]; exact b2
                · exact b2
        · split
          · exact b3
          · split
            · exact b3
            · split
              · exact b3
              · split
                · rw [k11]; exact b3
                · exact b3
        · rw [b5 q]
          simp only [lm_isE, r4, r9, lm_cv, lm_come, lm_ite]
          exact ⟨trivial, trivial⟩
theorem lm_loop {U : NodV} {P : RouV} {l l' : Nat} (ll : l ≤ l') (b : l' < 1000) (x2 : Int32) : ∀ (nn k : Nat) (x : Int32) (V : MemV), V 0 11 = nI l → ∃ m, m ≤ 64 * nn ∧ (lp_X1_walk_8 12 P U x2 nn k x V).2 0 14 = V 0 14 + nI m ∧ (lp_X1_walk_8 12 P U x2 nn k x V).2 0 11 = nI l ∧ (m = 0 → lp_X1_walk_8 12 P U x2 nn k x (lm V (nI l')) = ((lp_X1_walk_8 12 P U x2 nn k x V).1, lm (lp_X1_walk_8 12 P U x2 nn k x V).2 (nI l'))) := by
  intro nn
  induction nn with
  | zero =>
    intro k x V hl
    exact ⟨0, by omega, by rw [nI_0, Int32.add_zero]; rfl, hl, fun _ => rfl⟩
  | succ nn ih =>
    intro k x V hl
    have st : ∀ V, lp_X1_walk_8 12 P U x2 (nn + 1) k x V = if x < 0 then (x, V) else lp_X1_walk_8 12 P U x2 nn (k + 1) (q_X1_stepFrom U V x (q_X4_stepAt 12 P (nI k))) (gV_X1_stepFrom U V x (q_X4_stepAt 12 P (nI k))) := fun _ => rfl
    rw [st, st]
    by_cases c : x < 0
    · rw [if_pos c, if_pos c]
      exact ⟨0, by omega, by rw [nI_0, Int32.add_zero], hl, fun _ => rfl⟩
    · rw [if_neg c, if_neg c]
      obtain ⟨m1, a1, a2, a3, a4⟩ := lm_step (U := U) hl ll b x (q_X4_stepAt 12 P (nI k))
      obtain ⟨m2, b1, b2, b3, b4⟩ := ih (k + 1) (q_X1_stepFrom U V x (q_X4_stepAt 12 P (nI k))) (gV_X1_stepFrom U V x (q_X4_stepAt 12 P (nI k))) a3
      refine ⟨m1 + m2, by omega, by rw [b2, a2, Int32.add_assoc, nI_add], b3, fun q => ?_⟩
      obtain ⟨c1, c2⟩ := a4 (by omega)
      rw [c1, c2]
      exact b4 (by omega)
theorem lm_walk {U : NodV} {P : RouV} {V : MemV} {l l' : Nat} (hl : V 0 11 = nI l) (ll : l ≤ l') (b : l' < 1000) {x2 : Int32} (hx : ix x2 ≤ 12) : ∃ m, m ≤ 768 ∧ gV_X1_walk 12 P U V x2 0 14 = V 0 14 + nI m ∧ gV_X1_walk 12 P U V x2 0 11 = nI l ∧ (m = 0 → gV_X1_walk 12 P U (lm V (nI l')) x2 = lm (gV_X1_walk 12 P U V x2) (nI l')) := by
  have s16 : ∀ A v, uv (lm A (nI l')) 0 16 v = lm (uv A 0 16 v) (nI l') := fun A v => lm_s A _ v (by simp)
  have cr : gV_X1_comeToRoot (lm V (nI l')) = lm (gV_X1_comeToRoot V) (nI l') := by
    unfold gV_X1_comeToRoot
    rw [s16, lm_q V _ (show (9 : Fin 12) ≠ 0 by decide), lm_come]
  have cq : q_X1_comeToRoot (lm V (nI l')) = q_X1_comeToRoot V := by
    show gV_X1_comeToRoot (lm V (nI l')) 9 0 = gV_X1_comeToRoot V 9 0
    rw [cr, lm_q _ _ (show (9 : Fin 12) ≠ 0 by decide)]
  have c14 : gV_X1_comeToRoot V 0 14 = V 0 14 := by
    unfold gV_X1_comeToRoot
    rw [come0 _ _ (by decide) (by decide), uv_n _ _ _ _ _ _ (by decide)]
  have c11 : gV_X1_comeToRoot V 0 11 = nI l := by
    unfold gV_X1_comeToRoot
    rw [come0 _ _ (by decide) (by decide), uv_n _ _ _ _ _ _ (by decide)]
    exact hl
  obtain ⟨m, b1, b2, b3, b4⟩ := lm_loop (U := U) (P := P) ll b x2 (ix x2) 0 (q_X1_comeToRoot V) (gV_X1_comeToRoot V) c11
  have e1 : gV_X1_walk 12 P U V x2 = (lp_X1_walk_8 12 P U x2 (ix x2) 0 (q_X1_comeToRoot V) (gV_X1_comeToRoot V)).2 := rfl
  have e2 : gV_X1_walk 12 P U (lm V (nI l')) x2 = (lp_X1_walk_8 12 P U x2 (ix x2) 0 (q_X1_comeToRoot (lm V (nI l'))) (gV_X1_comeToRoot (lm V (nI l')))).2 := rfl
  refine ⟨m, by omega, by rw [e1, b2, c14], by rw [e1]; exact b3, fun q => ?_⟩
  rw [e2, cr, cq, b4 q, e1]
/-- the paths of a trace, one behind another -/
def runV (U : NodV) (R : Nat → RouV) : Nat → MemV → MemV
  | 0, V => V
  | p + 1, V => gV_X1_walk 12 (R p) U (runV U R p V) (R p 0 1)
theorem runV_s (U : NodV) (R : Nat → RouV) (p : Nat) (V : MemV) : runV U R (p + 1) V = gV_X1_walk 12 (R p) U (runV U R p V) (R p 0 1) := rfl
theorem lm_run {U : NodV} {R : Nat → RouV} {V : MemV} {l l' : Nat} (hl : V 0 11 = nI l) (ll : l ≤ l') (b : l' < 1000) : ∀ L, (∀ p, p < L → ix (R p 0 1) ≤ 12) → ∃ m, m ≤ 768 * L ∧ runV U R L V 0 14 = V 0 14 + nI m ∧ runV U R L V 0 11 = nI l ∧ (m = 0 → ∀ p, p ≤ L → runV U R p (lm V (nI l')) = lm (runV U R p V) (nI l'))
  | 0, _ => ⟨0, by omega, by rw [nI_0, Int32.add_zero]; rfl, hl, fun _ p hp => by
    have : p = 0 := by omega
    subst this
    rfl⟩
  | L + 1, hR => by
    obtain ⟨m1, a1, a2, a3, a4⟩ := lm_run hl ll b L (fun p hp => hR p (by omega))
    obtain ⟨m2, b1, b2, b3, b4⟩ := lm_walk (U := U) (P := R L) a3 ll b (hR L (by omega))
    refine ⟨m1 + m2, by omega, by rw [runV_s, b2, a2, Int32.add_assoc, nI_add], b3, fun q p hp => ?_⟩
    by_cases z : p = L + 1
    · subst z
      rw [runV_s, runV_s, a4 (by omega) L (Nat.le_refl _), b4 (by omega)]
    · exact a4 (by omega) p (by omega)

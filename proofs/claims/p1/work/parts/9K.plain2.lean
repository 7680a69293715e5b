/-! Refusals; the tape cut; what is seen; the seed. -/
theorem up2_s (I : MI) (a k : Nat) (v : Int32) : up2 I a k v a k = v := by simp [up2]
theorem up2_o (I : MI) {a x : Nat} (k : Nat) (v : Int32) (h : x ≠ a) : up2 I a k v x = I x := by
  funext j
  simp [up2, h]
theorem up2_k (I : MI) (a : Nat) {k j : Nat} (v : Int32) (h : j ≠ k) : up2 I a k v a j = I a j := by simp [up2, h]
theorem up2_r (I : MI) (a k : Nat) (v : Int32) (j : Nat) : up2 I a k v a j = if j = k then v else I a j := by simp [up2]
theorem rfz_o (I : MI) (k : Nat) {x : Nat} (h : x ≠ 186) : rfz I k x = I x := up2_o I k _ h
theorem rfR_o (I : MI) (k : Nat) {x : Nat} (h : x ≠ 190) : rfR I k x = I x := up2_o I k _ h
theorem St.refuse {I : MI} {J : MJ} {T B0 : Nat} (h : St I J T B0) (h30 : T + 10001 ≤ 1000000000) {k : Nat} (hk : k < 6) : St (rfR (rfz I k) k) J (T + 10001) B0 := by
  have o : ∀ x, x ≠ 186 → x ≠ 190 → rfR (rfz I k) k x = I x := fun x a b => by rw [rfR_o _ _ b, rfz_o _ _ a]
  obtain ⟨L, s7⟩ := h.2.2.2.2.2.2.2.1
  refine h.sm (h.2.1.fr (o _ (by decide) (by decide)) (o _ (by decide) (by decide)) (by rw [o 188 (by decide) (by decide)]) (o _ (by decide) (by decide))) (h.2.2.1.fr (o _ (by decide) (by decide)) (by rw [o 188 (by decide) (by decide)]) (by rw [o 188 (by decide) (by decide)])) ?_ (h.2.2.2.2.1.fr (by rw [o 0 (by decide) (by decide)]) (o _ (by decide) (by decide)) (by rw [o 188 (by decide) (by decide)]) (o _ (by decide) (by decide))) (h.2.2.2.2.2.1.fr (by rw [o 0 (by decide) (by decide)]) (o _ (by decide) (by decide)) (by rw [o 188 (by decide) (by decide)]) (o _ (by decide) (by decide))) ⟨L, s7.fr (by rw [o 69 (by decide) (by decide)]) (by rw [o 69 (by decide) (by decide)]) (fun x _ _ => o x (by omega) (by omega)) (by rw [o 188 (by decide) (by decide)]) (by rw [o 188 (by decide) (by decide)]) (o _ (by decide) (by decide)) (o _ (by decide) (by decide))⟩ (h.2.2.2.2.2.2.2.2.1.fr (by rw [o 188 (by decide) (by decide)]) (by rw [o 188 (by decide) (by decide)])) (fun x a _ _ _ _ _ => o x (by omega) (by omega)) (o _ (by decide) (by decide)) (fun _ => ⟨by rw [o 69 (by decide) (by decide)], by rw [o 69 (by decide) (by decide)]⟩) (fun x a => o x (by omega) (by omega)) (fun k _ => by rw [o 188 (by decide) (by decide)]) (fun k _ => by rw [o 194 (by decide) (by decide)]) (o _ (by decide) (by decide)) (by omega) h30
  refine h.2.2.2.1.ref (k := k) (fun j => ?_) (fun j => ?_) hk
  · rw [rfR_o _ _ (by decide)]
    exact up2_r I 186 k _ j
  · have := up2_r (rfz I k) 190 k (rfz I k 190 k + 1) j
    rw [rfz_o I k (show (190 : Nat) ≠ 186 by decide)] at this
    exact this
theorem P_end {I : MI} {J : MJ} {T B0 : Nat} (h : St I J T B0) (h30 : T + 10001 ≤ 1000000000) (x : Int32) : Pair I J T B0 (M_X9_end [mR (some 0), mI x]) (M_X10_end [mR (some 188), mI x]) := by
  obtain ⟨n, t1, t2, t3⟩ := h.2.1
  have c : ∀ Y : MI, Y 188 1 = nI n → (x < 0 ∨ ¬ x ≤ Y 188 1) = (x < 0 ∨ ¬ x ≤ nI n) := fun Y q => by rw [q]
  have q01 : vw 2 I 7 0 1 = nI n := t1.2.1
  have uE := u_end h.1.1 I x
  unfold q_X5_cut gQ_X5_cut at uE
  rw [q01] at uE
  by_cases a : x < 0
  · simp only [if_pos a, if_true] at uE
    rw [pt_vw] at uE
    refine ⟨0, _, _, J, uE, ?_, h.refuse h30 (k := 0) (by decide)⟩
    rw [w_end h.1.2 (rfz I 0) x, if_pos (Or.inl a)]
  · by_cases b : x ≤ nI n
    · simp only [if_neg a, if_pos b, if_neg i10] at uE
      have nx : x = nI (ix x) := nI_ix a
      have le : ix x ≤ n := by
        have := t1.1
        rw [nx] at b
        exact (nI_leI (ix_lt x) (by omega)).mp b
      have o : ∀ y, y ≠ 7 → pt I 7 (uv (vw 2 I 7) 0 1 x) y = I y := fun y hy => by
        by_cases z : y = 8
        · subst z
          have := pt_in (I := I) (a := 7) (V := uv (vw 2 I 7) 0 1 x) (1 : Fin 2)
          rw [show (7 + (1 : Fin 2).val) = 8 from rfl] at this
          rw [this, uv_k _ _ _ _ _ (by decide)]
          rfl
        · exact pt_out (by omega)
      have at7 : pt I 7 (uv (vw 2 I 7) 0 1 x) 7 1 = x := by
        rw [pt_0, uv_s]
      generalize pt I 7 (uv (vw 2 I 7) 0 1 x) = I1 at uE o at7
      refine ⟨1, _, up2 I1 188 1 x, J, uE, ?_, ?_⟩
      · rw [w_end h.1.2 I1 x, if_neg]
        rw [c I1 (by rw [o 188 (by decide)]; exact t2)]
        exact fun z => z.elim a (fun y => y b)
      · have o2 : ∀ y, y ≠ 7 → y ≠ 188 → up2 I1 188 1 x y = I y := fun y p q => by rw [up2_o _ _ _ q, o y p]
        have k2 : ∀ k, k ≠ 1 → up2 I1 188 1 x 188 k = I 188 k := fun k p => by rw [up2_k _ _ _ p, o 188 (by decide)]
        obtain ⟨L, s7⟩ := h.2.2.2.2.2.2.2.1
        refine h.sm ⟨ix x, ⟨by have := t1.1; omega, ?_, fun k hk => ?_⟩, ?_, fun k hk => ?_⟩ (h.2.2.1.fr (o2 _ (by decide) (by decide)) (k2 _ (by decide)) (k2 _ (by decide))) (h.2.2.2.1.fr (o2 _ (by decide) (by decide)) (o2 _ (by decide) (by decide))) (h.2.2.2.2.1.fr (by rw [o2 0 (by decide) (by decide)]) (o2 _ (by decide) (by decide)) (k2 _ (by decide)) (o2 _ (by decide) (by decide))) (h.2.2.2.2.2.1.fr (by rw [o2 0 (by decide) (by decide)]) (o2 _ (by decide) (by decide)) (k2 _ (by decide)) (o2 _ (by decide) (by decide))) ⟨L, s7.fr (by rw [o2 69 (by decide) (by decide)]) (by rw [o2 69 (by decide) (by decide)]) (fun y _ _ => o2 y (by omega) (by omega)) (k2 _ (by decide)) (k2 _ (by decide)) (o2 _ (by decide) (by decide)) (o2 _ (by decide) (by decide))⟩ (h.2.2.2.2.2.2.2.2.1.fr (k2 _ (by decide)) (k2 _ (by decide))) (fun y a _ _ _ _ _ => o2 y (by omega) (by omega)) (o2 _ (by decide) (by decide)) (fun _ => ⟨by rw [o2 69 (by decide) (by decide)], by rw [o2 69 (by decide) (by decide)]⟩) (fun y a => o2 y (by omega) (by omega)) (fun k q => k2 k (by omega)) (fun k _ => by rw [o2 194 (by decide) (by decide)]) (o2 _ (by decide) (by decide)) (by omega) h30
        · show up2 I1 188 1 x (7 + 0) 1 = _
          rw [up2_o _ _ _ (by decide)]
          exact at7.trans nx
        · show ∃ b, b < 256 ∧ up2 I1 188 1 x (7 + 1) k = nI b
          rw [o2 8 (by decide) (by decide)]
          exact t1.2.2 k (by omega)
        · rw [up2_s]
          exact nx
        · rw [o2 8 (by decide) (by decide), o2 189 (by decide) (by decide)]
          exact t3 k (by omega)
    · simp only [if_neg a, if_neg b, if_true] at uE
      rw [pt_vw] at uE
      refine ⟨0, _, _, J, uE, ?_, h.refuse h30 (k := 0) (by decide)⟩
      rw [w_end h.1.2 (rfz I 0) x, if_pos]
      rw [c (rfz I 0) (by rw [rfz_o _ _ (by decide)]; exact t2)]
      exact Or.inr b
theorem P_see {I : MI} {J : MJ} {T B0 : Nat} (h : St I J T B0) (h30 : T + 10001 ≤ 1000000000) (x : Int32) : Pair I J T B0 (M_X9_see [mR (some 0), mI x]) (M_X10_see [mR (some 188), mI x]) := by
  obtain ⟨L, s7⟩ := h.2.2.2.2.2.2.2.1
  have e36 : I 69 1 = I 188 36 := s7.1.trans s7.2.2.1.symm
  have uE := u_see h.1.1 I x
  by_cases a : I 69 1 = 0 ∨ ¬ 0 ≤ x
  · rw [if_pos a] at uE
    refine ⟨0, _, _, J, uE, ?_, h.refuse h30 (k := 5) (by decide)⟩
    rw [w_see h.1.2 (rfz I 5) x, if_pos]
    rw [rfz_o I 5 (by decide), ← e36]
    exact a
  · rw [if_neg a] at uE
    refine ⟨1, _, up2 (up2 I 69 2 x) 188 37 x, J, uE, ?_, ?_⟩
    · rw [w_see h.1.2 (up2 I 69 2 x) x, if_neg]
      rw [up2_o _ _ _ (by decide), ← e36]
      exact a
    · have o : ∀ y, y ≠ 69 → y ≠ 188 → up2 (up2 I 69 2 x) 188 37 x y = I y := fun y p q => by rw [up2_o _ _ _ q, up2_o _ _ _ p]
      have k : ∀ j, j ≠ 37 → up2 (up2 I 69 2 x) 188 37 x 188 j = I 188 j := fun j p => by rw [up2_k _ _ _ p, up2_o _ _ _ (by decide)]
      have z1 : up2 (up2 I 69 2 x) 188 37 x 69 1 = I 69 1 := by rw [up2_o _ _ _ (by decide), up2_k _ _ _ (by decide)]
      refine h.sm (h.2.1.fr (o _ (by decide) (by decide)) (o _ (by decide) (by decide)) (k _ (by decide)) (o _ (by decide) (by decide))) (h.2.2.1.fr (o _ (by decide) (by decide)) (k _ (by decide)) (k _ (by decide))) (h.2.2.2.1.fr (o _ (by decide) (by decide)) (o _ (by decide) (by decide))) (h.2.2.2.2.1.fr (by rw [o 0 (by decide) (by decide)]) (o _ (by decide) (by decide)) (k _ (by decide)) (o _ (by decide) (by decide))) (h.2.2.2.2.2.1.fr (by rw [o 0 (by decide) (by decide)]) (o _ (by decide) (by decide)) (k _ (by decide)) (o _ (by decide) (by decide))) ⟨L, ?_⟩ (h.2.2.2.2.2.2.2.2.1.fr (k _ (by decide)) (k _ (by decide))) (fun y a _ _ _ _ _ => o y (by omega) (by omega)) (o _ (by decide) (by decide)) (fun u => ?_) (fun y a => o y (by omega) (by omega)) (fun j q => k j (by omega)) (fun j _ => by rw [o 194 (by decide) (by decide)]) (o _ (by decide) (by decide)) (by omega) h30
      · refine ⟨z1.trans s7.1, s7.2.1, (k 36 (by decide)).trans s7.2.2.1, ?_, fun p hp => ?_⟩
        · rw [up2_s, up2_o _ _ _ (by decide), up2_s]
        · have := s7.2.1
          rw [o 203 (by decide) (by decide), o 202 (by decide) (by decide), vw_fr (I := I) (fun y _ _ => o y (by omega) (by omega))]
          exact s7.2.2.2.2 p hp
      · exact absurd (Or.inl u.2.2.2.1.1) a
theorem P_seed {I : MI} {J : MJ} {T B0 : Nat} (h : St I J T B0) (h30 : T + 10001 ≤ 1000000000) (x : Int32) : Pair I J T B0 (M_X9_seed [mR (some 0), mI x]) (M_X10_seed [mR (some 188), mI x]) := by
  have uE := u_seed h.1.1 I x
  by_cases a : 0 ≤ x
  · rw [if_pos a] at uE
    have k1 : KL (up2 J.1 0 15 (Int32.toInt64 x), J.2) := h.1.1
    have r1 : RefL (up2 J.1 0 15 (Int32.toInt64 x), J.2) := h.1.2
    have wE := w_seed r1 I x
    rw [if_pos a] at wE
    refine ⟨1, _, I, _, uE, wE, ?_⟩
    have hm := h.mono (show T ≤ T + 10001 by omega) h30
    refine ⟨h.1, hm.2.1, hm.2.2.1, hm.2.2.2.1, hm.2.2.2.2.1, hm.2.2.2.2.2.1, ?_, hm.2.2.2.2.2.2.2.1, hm.2.2.2.2.2.2.2.2.1, hm.2.2.2.2.2.2.2.2.2⟩
    have e0 : up2 (up2 J.1 0 15 (Int32.toInt64 x)) 188 31 (Int32.toInt64 x) 0 15 = Int32.toInt64 x := by simp [up2]
    have e1 : up2 (up2 J.1 0 15 (Int32.toInt64 x)) 188 31 (Int32.toInt64 x) 188 31 = Int32.toInt64 x := by simp [up2]
    refine ⟨e0.trans e1.symm, ix x, ix_lt x, ?_⟩
    show up2 (up2 J.1 0 15 (Int32.toInt64 x)) 188 31 (Int32.toInt64 x) 0 15 = _
    rw [e0]
    have : x = nI (ix x) := nI_ix (Int32.not_lt.mpr a)
    rw [this, nI_l (ix_lt _), ← this]
  · rw [if_neg a] at uE
    refine ⟨0, _, _, J, uE, ?_, h.refuse h30 (k := 5) (by decide)⟩
    rw [w_seed h.1.2 (rfz I 5) x, if_neg a]

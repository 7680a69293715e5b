/-! What is below is given up, on the reference's side; counts that do not look at what changed. -/
def dcD (e : Nat) (k : Nat) (D : RowV) : RowV := if D (701 + 9 * k + 0) = 1 ∧ D (701 + 9 * k + 1) = nI e then sD D (701 + 9 * k + 0) 0 else D
theorem dc_o (e : Nat) : ∀ (n k : Nat) (D : RowV) (j : Nat), (∀ i, k ≤ i → i < k + n → j ≠ 701 + 9 * i + 0) → itr (dcD e) k n D j = D j
  | 0, k, D, j, _ => rfl
  | n + 1, k, D, j, h => by
    show itr (dcD e) (k + 1) n (dcD e k D) j = D j
    rw [dc_o e n (k + 1) _ j (fun i a b => h i (by omega) (by omega))]
    unfold dcD
    by_cases z : D (701 + 9 * k + 0) = 1 ∧ D (701 + 9 * k + 1) = nI e
    · rw [if_pos z, sD_n _ _ (h k (by omega) (by omega))]
    · rw [if_neg z]
theorem dc_at (e : Nat) : ∀ (n k : Nat) (D : RowV) (i : Nat), k ≤ i → i < k + n → itr (dcD e) k n D (701 + 9 * i + 0) = if D (701 + 9 * i + 0) = 1 ∧ D (701 + 9 * i + 1) = nI e then 0 else D (701 + 9 * i + 0)
  | 0, k, D, i, h1, h2 => by omega
  | n + 1, k, D, i, h1, h2 => by
    show itr (dcD e) (k + 1) n (dcD e k D) (701 + 9 * i + 0) = _
    by_cases w : i = k
    · subst w
      rw [dc_o e n (i + 1) _ _ (fun b _ _ => by omega)]
      unfold dcD
      by_cases z : D (701 + 9 * i + 0) = 1 ∧ D (701 + 9 * i + 1) = nI e
      · rw [if_pos z, if_pos z, sD_s]
      · rw [if_neg z, if_neg z]
    · rw [dc_at e n (k + 1) _ i (by omega) (by omega)]
      have o : ∀ j, j ≠ 701 + 9 * k + 0 → dcD e k D j = D j := fun j q => by
        unfold dcD
        by_cases z : D (701 + 9 * k + 0) = 1 ∧ D (701 + 9 * k + 1) = nI e
        · rw [if_pos z, sD_n _ _ q]
        · rw [if_neg z]
      rw [o _ (by omega), o _ (by omega)]
theorem dc_sD (e : Nat) (D : RowV) {a : Nat} (v : Int32) (ha : ∀ i, i < 128 → a ≠ 701 + 9 * i + 0 ∧ a ≠ 701 + 9 * i + 1) : itr (dcD e) 0 128 (sD D a v) = sD (itr (dcD e) 0 128 D) a v := by
  funext j
  by_cases z : ∃ i, i < 128 ∧ j = 701 + 9 * i + 0
  · obtain ⟨i, i1, i2⟩ := z
    obtain ⟨a0, a1⟩ := ha i i1
    rw [i2, dc_at e 128 0 _ i (Nat.zero_le _) (by omega), sD_n _ _ (fun q => a0 q.symm), sD_n _ _ (fun q => a1 q.symm), sD_n _ _ (fun q => a0 q.symm), dc_at e 128 0 _ i (Nat.zero_le _) (by omega)]
  · have o := fun D => dc_o e 128 0 D j (fun i _ q w => z ⟨i, by omega, w⟩)
    rw [o]
    by_cases w : j = a
    · rw [w, sD_s, sD_s]
    · rw [sD_n _ _ w, sD_n _ _ w, o]
theorem Rel.below {U : NodV} {V V' : MemV} {H : OneV} {W : WkV} {D : RowV} {n vol : Nat} (r : Rel none U V H W D n) (hN : NodI U n vol) {e : Nat} (a1 : ∀ f, f < 64 → V' 1 f = if ¬ V 1 f = 0 ∧ V 2 f = nI e then 0 else V 1 f) (kk : ∀ q : Fin 12, q ≠ 1 → q ≠ 5 → V' q = V q) : Rel none U V' H W (itr (dcD e) 0 128 D) n := by
  have n60 := hN.n60
  have o : ∀ j, (∀ f, f < 128 → j ≠ 701 + 9 * f + 0) → itr (dcD e) 0 128 D j = D j := fun j q => dc_o e 128 0 D j (fun f _ b => q f (by omega))
  have b := r.B
  have c0 := kk 0 (by decide) (by decide)
  refine r.fr ⟨?_, ?_, ?_, ?_, ?_, ?_, ?_, ?_, ?_, ?_, ?_⟩ (fun j h1 h2 => o j (fun f _ => by omega)) (fun k z => by cases z)
  · rw [o 0 (fun f _ => by omega), c0]; exact b.tk
  · rw [o 1 (fun f _ => by omega), c0]; exact b.lo
  · rw [o 2 (fun f _ => by omega), c0]; exact b.tr
  · rw [o 3 (fun f _ => by omega), c0]; exact b.rm
  · rw [o 4 (fun f _ => by omega)]; exact b.ev
  · intro v hv
    rw [o _ (fun f _ => by omega), kk 9 (by decide) (by decide)]; exact b.rt v hv
  · intro v hv
    rw [o _ (fun f _ => by omega), kk 10 (by decide) (by decide)]; exact b.ov v hv
  · intro j hj
    rw [o _ (fun f _ => by omega)]; exact b.ha j hj
  · intro j hj
    rw [o _ (fun f _ => by omega), o _ (fun f _ => by omega), o _ (fun f _ => by omega), o _ (fun f _ => by omega), o _ (fun f _ => by omega)]
    exact b.nd j hj
  · intro f hf
    have t := b.th f hf
    rw [dc_at e 128 0 D f (Nat.zero_le _) (by omega)]
    by_cases z : f < 64 ∧ ¬ V 1 f = 0
    · rw [if_pos z] at t
      rw [t, (b.en f z.1 z.2).1]
      have v1 := a1 f z.1
      by_cases w : V 2 f = nI e
      · rw [if_pos ⟨z.2, w⟩] at v1
        rw [if_pos ⟨rfl, w⟩, v1, if_neg (fun q => q.2 rfl)]
      · rw [if_neg (fun q => w q.2)] at v1
        rw [if_neg (fun q => w q.2), v1, if_pos z]
    · rw [if_neg z] at t
      rw [t, if_neg (fun q => absurd q.1 (by decide)), if_neg]
      intro q
      rw [a1 f q.1] at q
      by_cases w : ¬ V 1 f = 0 ∧ V 2 f = nI e
      · rw [if_pos w] at q; exact q.2 rfl
      · rw [if_neg w] at q; exact z q
  · intro f hf q
    rw [a1 f hf] at q
    have nz : ¬ (¬ V 1 f = 0 ∧ V 2 f = nI e) := fun z => by rw [if_pos z] at q; exact q rfl
    rw [if_neg nz] at q
    rw [o _ (fun f _ => by omega), o _ (fun f _ => by omega), o _ (fun f _ => by omega), o _ (fun f _ => by omega), o _ (fun f _ => by omega), o _ (fun f _ => by omega), o _ (fun f _ => by omega), o _ (fun f _ => by omega), a1 f hf, if_neg nz, kk 2 (by decide) (by decide), kk 3 (by decide) (by decide), kk 4 (by decide) (by decide), kk 6 (by decide) (by decide), kk 7 (by decide) (by decide), kk 8 (by decide) (by decide), cov_fr (kk 10 (by decide) (by decide))]
    exact b.en f hf q
theorem wF_cg {D D' : RowV} (c2 : CHw D) (hj : ∀ j, j < 401 → D' j = D j) {w : Nat} (hw : w < 4) (e : Nat) : wF D' w e = wF D w e := by
  unfold wF
  rw [hj (17 + 96 * w + 0) (by omega), hj (17 + 96 * w + 1) (by omega), hj (17 + 96 * w + 5) (by omega)]
  by_cases z : D (17 + 96 * w + 0) = 0 ∨ D (17 + 96 * w + 1) = 0
  · rw [if_pos z, if_pos z]
  · rw [if_neg z, if_neg z]
    obtain ⟨m, m1, m2, _⟩ := c2 w hw (fun q => z (Or.inl q)) (fun q => z (Or.inr q))
    rw [m2, ix_nI (by omega)]
    exact cnt_cong (fun k _ hk => by rw [hj (17 + 96 * w + (18 + 3 * k)) (by omega)])
theorem Rel.counts2 {U : NodV} {V : MemV} {H : OneV} {W : WkV} {D D' : RowV} {n vol t T : Nat} (r : Rel none U V H W D n) (i : Inv U V H W n vol t T (fun _ => 0)) {J : MJ} (h : RefL J) (I : MI) (hb : I 188 20 = -1) (G : RowV) (c : Int32) (hj : ∀ j, j < 401 → D' j = D j) (he : ∀ f, f < 128 → D' (701 + 9 * f + 0) = D (701 + 9 * f + 0) ∧ D' (701 + 9 * f + 1) = D (701 + 9 * f + 1) ∧ D' (701 + 9 * f + 7) = D (701 + 9 * f + 7)) : ∃ G', M_X10_counts [mR (some 188)] (rF I D' G c, J) = some (none, (rF I D' G' c, J)) ∧ ∀ e, e < 64 → ¬ V 1 e = 0 → (G' e = 0 ↔ hc V H W e = 0) := by
  obtain ⟨c1, c2, c3⟩ := r.ch i
  have d1 : CHd D' := fun k hk => by rw [hj (11 + k) (by omega)]; exact c1 k hk
  have d2 : CHw D' := fun w hw q0 q1 => by
    rw [hj (17 + 96 * w + 0) (by omega)] at q0
    rw [hj (17 + 96 * w + 1) (by omega)] at q1
    obtain ⟨m, m1, m2, m3⟩ := c2 w hw q0 q1
    exact ⟨m, m1, by rw [hj (17 + 96 * w + 5) (by omega)]; exact m2, fun k hk => by rw [hj (17 + 96 * w + (18 + 3 * k)) (by omega)]; exact m3 k hk⟩
  have d3 : CEd D' := fun k hk q => by
    rw [(he k hk).1] at q
    rw [(he k hk).2.1]
    exact c3 k hk q
  obtain ⟨G', g1, g2⟩ := w_counts h I D' G c d1 d2 d3 (Or.inl hb)
  refine ⟨G', g1, fun e e64 q => ?_⟩
  have ee : eF D' e = eF D e := by
    unfold eF
    have c0 : cnt (fun k => decide (¬ D' (701 + 9 * k + 0) = 0 ∧ D' (701 + 9 * k + 1) = nI e)) 0 128 = cnt (fun k => decide (¬ D (701 + 9 * k + 0) = 0 ∧ D (701 + 9 * k + 1) = nI e)) 0 128 := cnt_cong (fun k _ hk => by rw [(he k (by omega)).1, (he k (by omega)).2.1])
    rw [c0, (he e (by omega)).1, (he e (by omega)).2.2]
  have hh : hF D' e = hF D e := by
    unfold hF
    have c0 : cnt (fun k => decide (D' (11 + k) = nI e)) 0 6 = cnt (fun k => decide (D (11 + k) = nI e)) 0 6 := cnt_cong (fun k _ hk => by rw [hj (11 + k) (by omega)])
    have s0 : sm (fun w => wF D' w e) 0 4 = sm (fun w => wF D w e) 0 4 := sm_cong (fun w _ hw => wF_cg c2 hj (by omega) e)
    rw [c0, s0]
  have gq : G' e = nI (hc V H W e) := by
    rw [g2 e (by omega), ee, hh, r.eqe i e64 q, r.eqh i e, hb, if_neg (fun z => nI_m1 (show e < 2 ^ 31 by omega) z.symm)]
    have hs : hcC V e + hcV V e + (hcH H e + hcW W e + pnd none V W e) + 0 = hc V H W e := by
      have p0 : pnd none V W e = 0 := rfl
      unfold hc
      rw [p0]
      omega
    rw [hs]
  have hl := i.hle e
  rw [gq]
  constructor
  · intro z
    exact (nI_eq (by omega) (by omega)).mp (z.trans nI_0.symm)
  · intro z
    rw [z]; rfl

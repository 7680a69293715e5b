section
/-! Something that may be changed, on both sides; what is below it is given up. -/
theorem rv_m {V : MemV} {a : Nat} (ha : a < 64) : q_X1_rootVolume V (nI a) = -1 ↔ ∀ v, v < 3 → ¬ V 9 v = nI a := by
  have na : ¬ nI a = -1 := nI_m1 (by omega)
  show oI (f_X1_rootVolume V (nI a)) = -1 ↔ _
  cases q : f_X1_rootVolume V (nI a) with
  | none =>
    refine ⟨fun _ v hv z => ?_, fun _ => rfl⟩
    have := fst_none q v (Nat.zero_le _) (by omega)
    rw [if_neg na, if_pos z] at this
    cases this
  | some v =>
    obtain ⟨_, v3, w, _⟩ := fst_some q
    rw [if_neg na] at w
    constructor
    · intro z
      exact absurd z (nI_m1 (show v < 2 ^ 31 by omega))
    · intro z
      rw [if_neg (z v (by omega))] at w
      cases w
theorem cv_m {V : MemV} {a : Nat} (ha : a < 64) : q_X1_coveringVolume V (nI a) = -1 ↔ ∀ v, v < 3 → ¬ V 10 v = nI a := by
  have na : ¬ nI a = -1 := nI_m1 (by omega)
  show oI (f_X1_coveringVolume V (nI a)) = -1 ↔ _
  cases q : f_X1_coveringVolume V (nI a) with
  | none =>
    refine ⟨fun _ v hv z => ?_, fun _ => rfl⟩
    have := fst_none q v (Nat.zero_le _) (by omega)
    rw [if_neg na, if_pos z] at this
    cases this
  | some v =>
    obtain ⟨_, v3, w, _⟩ := fst_some q
    rw [if_neg na] at w
    constructor
    · intro z
      exact absurd z (nI_m1 (show v < 2 ^ 31 by omega))
    · intro z
      rw [if_neg (z v (by omega))] at w
      cases w
/-- how something is found that may be changed -/
def Pla (V1 : MemV) (Q y c' : Int32) : Prop := (y = 1 ∧ ∃ a', c' = nI a' ∧ Q = nI a' ∧ At V1 a' ∧ ¬ q_X1_canChange V1 Q = 0 ∧ ¬ V1 2 a' = -1 ∧ ∀ v, v < 3 → ¬ V1 10 v = nI a') ∨ (y = 0 ∧ q_X1_canChange V1 Q = 0)
theorem Rel.isPlain {U : NodV} {V : MemV} {H : OneV} {W : WkV} {D : RowV} {n vol t T : Nat} {x : Nat → Nat} (r : Rel none U V H W D n) (i : Inv U V H W n vol t T x) (C : CntI V) (hx : ∀ e, e < 64 → ¬ x e = 0 → ¬ V 4 e = -1) {J : MJ} (h : RefL J) (I : MI) (hb : HB (I 188 20) x) (hw : I 188 21 = -1) (G : RowV) (c : Int32) {s1 : Nat} (hs1 : jS J s1 = (11, 64)) (hs : s1 ≠ 188 ∧ s1 ≠ 194 ∧ s1 ≠ 195) {L l : Nat} {P : RouV} (pth : Pth P (I s1) l) (hL : l ≤ L) (hLb : L < 1000) (l64 : l ≤ 64) (tT : t + 2 * l + 1 ≤ T) : ∃ D' G' c' y t', M_X10_isPlain [mR (some 188), mR (some s1), mI (nI l)] (rF I D G c, J) = some (some (mI y), (rF I D' G' c', J)) ∧ Stq none U V (gV_X1_walk L P U V (P 0 1)) H W D' n vol t' T 0 x ∧ t ≤ t' ∧ t' ≤ t + 2 * l + 1 ∧ Pla (gV_X1_walk L P U V (P 0 1)) (q_X1_walk L P U V (P 0 1)) y c' := by
  have m1 : ix (P 0 1) = l := by rw [pth.1, ix_nI (by omega)]
  obtain ⟨D', G', c', how, t', w1, w2, w3, w4, w5⟩ := r.walks i C hx h I hb hw G c hs1 hs (P := P) (lp := l) (m := l) (L := L) pth.1 (Nat.le_refl _) hL hLb l64 pth.2 (P 0 1) m1 tT
  generalize gV_X1_walk L P U V (P 0 1) = V1 at w2 w5
  generalize q_X1_walk L P U V (P 0 1) = Q at w5
  have bad : ∀ hw : Int32, (hw = -2 ∨ hw = -3) → how = hw → Q = hw → ∃ D' G' c' y t', M_X10_isPlain [mR (some 188), mR (some s1), mI (nI l)] (rF I D G c, J) = some (some (mI y), (rF I D' G' c', J)) ∧ Stq none U V V1 H W D' n vol t' T 0 x ∧ t ≤ t' ∧ t' ≤ t + 2 * l + 1 ∧ Pla V1 Q y c' := by
    intro hw hh e1 e2
    have q0 : Q < 0 := by rw [e2]; rcases hh with z | z <;> rw [z] <;> decide
    have h0 : ¬ how = 0 := by rw [e1]; rcases hh with z | z <;> rw [z] <;> decide
    refine ⟨D', G', c', 0, t', ?_, w2, w3, w4, Or.inr ⟨rfl, ?_⟩⟩
    · rw [E_X10_isPlain]
      simp only [h.kt, if_true, w1, Option.bind_some, asI_I, if_neg h0]
      simp
    · unfold q_X1_canChange q_X1_isEntry
      rw [if_pos q0, if_pos rfl]
  rcases w5 with ⟨a1, a', a2, a3, a4⟩ | ⟨a1, a2⟩ | ⟨a1, a2⟩
  · subst a1 a2 a3
    have a64 := a4.1
    have a0 : ¬ V1 1 a' = 0 := by rw [a4.2.1]; exact i10
    have en := w2.1.B.en a' a64 a0
    have cc : q_X1_canChange V1 (nI a') = if q_X1_rootVolume V1 (nI a') = -1 then (if q_X1_coveringVolume V1 (nI a') = -1 then 1 else 0) else 0 := by
      unfold q_X1_canChange
      rw [Inv.isE a64 a0, if_neg i10]
    have rq := w2.1.eqr (nI a')
    rw [E_X10_isPlain]
    simp only [h.kt, if_true, w1, Option.bind_some, asI_I, h.fi, rF_c, w_isRootB h, rF_D, w_its h _ 7 (show (7 : Int32) = nI 7 from rfl) (show a' < 128 by omega) (by decide), en.2.2.2.2.2.2.1]
    by_cases rt : rtB D' (nI a') = true
    · refine ⟨D', G', nI a', 0, t', ?_, w2, w3, w4, Or.inr ⟨rfl, ?_⟩⟩
      · rw [if_pos rt, if_neg i10]
        simp
      · rw [cc, if_neg]
        intro z
        obtain ⟨v, v3, q⟩ := rq.mp rt
        exact (rv_m a64).mp z v v3 q
    · have r1 : q_X1_rootVolume V1 (nI a') = -1 := (rv_m a64).mpr (fun v v3 q => rt (rq.mpr ⟨v, v3, q⟩))
      rw [if_neg rt, if_pos rfl]
      rw [r1, if_pos rfl] at cc
      by_cases cv : q_X1_coveringVolume V1 (nI a') = -1
      · refine ⟨D', G', nI a', 1, t', ?_, w2, w3, w4, Or.inl ⟨rfl, a', rfl, rfl, a4, by rw [cc, if_pos cv]; exact i10, fun z => ?_, (cv_m a64).mp cv⟩⟩
        · rw [if_pos cv]
          simp
        · obtain ⟨v, v3, q⟩ := w2.2.1.M.ro a' a64 a4.2.1 z
          exact (rv_m a64).mp r1 v v3 q
      · refine ⟨D', G', nI a', 0, t', ?_, w2, w3, w4, Or.inr ⟨rfl, by rw [cc, if_neg cv]⟩⟩
        rw [if_neg cv]
        simp
  · exact bad (-2) (Or.inl rfl) a1 a2
  · exact bad (-3) (Or.inr rfl) a1 a2
theorem drop_6 (V : MemV) (e f : Nat) (c : Int32) : gV_X1_drop (uv V 6 e c) (nI f) = uv (gV_X1_drop V (nI f)) 6 e c := by
  have c2 : uv V 6 e c 2 = V 2 := uv_k _ _ _ _ _ (by decide)
  have c5 : uv V 6 e c 5 = V 5 := uv_k _ _ _ _ _ (by decide)
  unfold gV_X1_drop
  rw [c2, c5]
  have sw : ∀ (A : MemV) (q : Fin 12) (j : Nat) (v : Int32), q ≠ 6 → uv (uv A 6 e c) q j v = uv (uv A q j v) 6 e c := by
    intro A q j v hq
    funext k i
    simp only [uv]
    by_cases z : k = q ∧ i = j
    · rw [if_pos z, if_neg (fun w => hq (by rw [← z.1, w.1])), if_pos z]
    · rw [if_neg z, if_neg z]
  rw [sw V 1 _ _ (by decide), sw _ 5 _ _ (by decide)]
  split
  · rfl
  · split
    · split
      · rfl
      · split
        · rfl
        · rfl
    · rfl
theorem empty_loop {U : NodV} {H : OneV} {W : WkV} {n vol t T e : Nat} (e64 : e < 64) {c : Int32} : ∀ (nn k : Nat) (V : MemV), k + nn = 64 → Inv U (uv V 6 e c) H W n vol t T (fun _ => 0) → (∀ f, f < 64 → ¬ V 1 f = 0 → V 2 f = nI e → V 4 f = -1) → (∀ f, f < k → ¬ V 1 f = 0 → ¬ V 2 f = nI e) → ∃ V2 : MemV, lp_X1_empty_21 (nI e) nn k V = (if V2 5 e = 0 then uv V2 4 e (-1) else gV_X1_release (uv (uv V2 1 e 2) 2 e (-1)) (V2 2 e)) ∧ Inv U (uv V2 6 e c) H W n vol t T (fun _ => 0) ∧ (∀ f, f < 64 → V2 1 f = if ¬ V 1 f = 0 ∧ V 2 f = nI e then 0 else V 1 f) ∧ ∀ q : Fin 12, q ≠ 1 → q ≠ 5 → V2 q = V q
  | 0, k, V, hk, hi, ha, hd => by
    refine ⟨V, ?_, hi, fun f hf => ?_, fun _ _ _ => rfl⟩
    · rw [show lp_X1_empty_21 (nI e) 0 k V = (if (V 5 (ix (nI e))) = 0 then (uv V 4 (ix (nI e)) ((-1))) else (gV_X1_release (uv (uv V 1 (ix (nI e)) 2) 2 (ix (nI e)) ((-1))) (V 2 (ix (nI e))))) from rfl, ix_nI (by omega)]
    · rw [if_neg (fun z => hd f (by omega) z.1 z.2)]
  | nn + 1, k, V, hk, hi, ha, hd => by
    have st : lp_X1_empty_21 (nI e) (nn + 1) k V = (if (V 1 k) = 0 then lp_X1_empty_21 (nI e) nn (k + 1) V else (if (V 2 k) = nI e then lp_X1_empty_21 (nI e) nn (k + 1) (gV_X1_drop V (nI k)) else lp_X1_empty_21 (nI e) nn (k + 1) V)) := rfl
    by_cases z : ¬ V 1 k = 0 ∧ V 2 k = nI e
    · rw [st, if_neg z.1, if_pos z.2]
      have c1 : uv V 6 e c 1 = V 1 := uv_k _ _ _ _ _ (by decide)
      have c2 : uv V 6 e c 2 = V 2 := uv_k _ _ _ _ _ (by decide)
      have c4 : uv V 6 e c 4 = V 4 := uv_k _ _ _ _ _ (by decide)
      have k64 : k < 64 := by omega
      have v4 : V 4 k = -1 := ha k k64 z.1 z.2
      have v1 : V 1 k = 1 := by
        rcases hi.M.st k k64 with q | q | q
        · rw [c1] at q; exact absurd q z.1
        · rw [c1] at q; exact q
        · have := (hi.M.go k k64 q).1
          rw [c2, z.2] at this
          exact absurd this (nI_m1 (by omega))
      have i2 := hi.drop k64 (by rw [c1]; exact v1) (by rw [c2, z.2]; exact nI_m1 (by omega)) (hi.ab k64 (by rw [c4]; exact v4)) rfl
      rw [drop_6] at i2
      have d1 := dr_1 V k64
      have dk := dr_k V (nI k)
      obtain ⟨V2, e1, e2, e3, e4⟩ := empty_loop e64 nn (k + 1) (gV_X1_drop V (nI k)) (by omega) i2 (fun f hf q1 q2 => by
        rw [dk 4 (by decide) (by decide)]
        rw [dk 2 (by decide) (by decide)] at q2
        rw [d1] at q1
        by_cases w : f = k
        · rw [if_pos w] at q1; exact absurd rfl q1
        · rw [if_neg w] at q1; exact ha f hf q1 q2) (fun f hf q1 => by
        rw [dk 2 (by decide) (by decide)]
        rw [d1] at q1
        by_cases w : f = k
        · rw [if_pos w] at q1; exact absurd rfl q1
        · rw [if_neg w] at q1; exact hd f (by omega) q1)
      refine ⟨V2, e1, e2, fun f hf => ?_, fun q q1 q5 => by rw [e4 q q1 q5, dk q q1 q5]⟩
      rw [e3 f hf, d1, dk 2 (by decide) (by decide)]
      by_cases w : f = k
      · rw [if_pos w, if_neg (fun q => q.1 rfl), w, if_pos z]
      · rw [if_neg w]
    · have : lp_X1_empty_21 (nI e) (nn + 1) k V = lp_X1_empty_21 (nI e) nn (k + 1) V := by
        rw [st]
        by_cases q : V 1 k = 0
        · rw [if_pos q]
        · rw [if_neg q, if_neg (fun w => z ⟨q, w⟩)]
      rw [this]
      exact empty_loop e64 nn (k + 1) V (by omega) hi ha (fun f hf q1 q2 => by
        by_cases w : f = k
        · exact z ⟨by rw [← w]; exact q1, by rw [← w]; exact q2⟩
        · exact hd f (by omega) q1 q2)
end
section
/-! What is below is given up, on the reference's side; counts that do not look at what changed. -/
def dcD (e : Nat) (k : Nat) (D : RowV) : RowV := if D (701 + 9 * k + 0) = 1 ∧ D (701 + 9 * k + 1) = nI e then sD D (701 + 9 * k + 0) 0 else D
theorem dc_o (e : Nat) : ∀ (n k : Nat) (D : RowV) (j : Nat), (∀ i, k ≤ i → i < k + n → j ≠ 701 + 9 * i + 0) → itr (dcD e) k n D j = D j
  | 0, k, D, j, _ => rfl
  | n + 1, k, D, j, h => by
    show itr (dcD e) (k + 1) n (dcD e k D) j = D j
    rw [dc_o e n (k + 1) _ j (fun i a b => h i (by omega) (by omega))]
    unfold dcD
    by_cases z : D (701 + 9 * k + 0) = 1 ∧ D (701 + 9 * k + 1) = nI e
    · rw [if_pos z, sD_n _ _ (h k (by omega) (by omega))]
    · rw [if_neg z]
theorem dc_at (e : Nat) : ∀ (n k : Nat) (D : RowV) (i : Nat), k ≤ i → i < k + n → itr (dcD e) k n D (701 + 9 * i + 0) = if D (701 + 9 * i + 0) = 1 ∧ D (701 + 9 * i + 1) = nI e then 0 else D (701 + 9 * i + 0)
  | 0, k, D, i, h1, h2 => by omega
  | n + 1, k, D, i, h1, h2 => by
    show itr (dcD e) (k + 1) n (dcD e k D) (701 + 9 * i + 0) = _
    by_cases w : i = k
    · subst w
      rw [dc_o e n (i + 1) _ _ (fun b _ _ => by omega)]
      unfold dcD
      by_cases z : D (701 + 9 * i + 0) = 1 ∧ D (701 + 9 * i + 1) = nI e
      · rw [if_pos z, if_pos z, sD_s]
      · rw [if_neg z, if_neg z]
    · rw [dc_at e n (k + 1) _ i (by omega) (by omega)]
      have o : ∀ j, j ≠ 701 + 9 * k + 0 → dcD e k D j = D j := fun j q => by
        unfold dcD
        by_cases z : D (701 + 9 * k + 0) = 1 ∧ D (701 + 9 * k + 1) = nI e
        · rw [if_pos z, sD_n _ _ q]
        · rw [if_neg z]
      rw [o _ (by omega), o _ (by omega)]
theorem dc_sD (e : Nat) (D : RowV) {a : Nat} (v : Int32) (ha : ∀ i, i < 128 → a ≠ 701 + 9 * i + 0 ∧ a ≠ 701 + 9 * i + 1) : itr (dcD e) 0 128 (sD D a v) = sD (itr (dcD e) 0 128 D) a v := by
  funext j
  by_cases z : ∃ i, i < 128 ∧ j = 701 + 9 * i + 0
  · obtain ⟨i, i1, i2⟩ := z
    obtain ⟨a0, a1⟩ := ha i i1
    rw [i2, dc_at e 128 0 _ i (Nat.zero_le _) (by omega), sD_n _ _ (fun q => a0 q.symm), sD_n _ _ (fun q => a1 q.symm), sD_n _ _ (fun q => a0 q.symm), dc_at e 128 0 _ i (Nat.zero_le _) (by omega)]
  · have o := fun D => dc_o e 128 0 D j (fun i _ q w => z ⟨i, by omega, w⟩)
    rw [o]
    by_cases w : j = a
    · rw [w, sD_s, sD_s]
    · rw [sD_n _ _ w, sD_n _ _ w, o]
theorem Rel.below {U : NodV} {V V' : MemV} {H : OneV} {W : WkV} {D : RowV} {n vol : Nat} (r : Rel none U V H W D n) (hN : NodI U n vol) {e : Nat} (a1 : ∀ f, f < 64 → V' 1 f = if ¬ V 1 f = 0 ∧ V 2 f = nI e then 0 else V 1 f) (kk : ∀ q : Fin 12, q ≠ 1 → q ≠ 5 → V' q = V q) : Rel none U V' H W (itr (dcD e) 0 128 D) n := by
  have n60 := hN.n60
  have o : ∀ j, (∀ f, f < 128 → j ≠ 701 + 9 * f + 0) → itr (dcD e) 0 128 D j = D j := fun j q => dc_o e 128 0 D j (fun f _ b => q f (by omega))
  have b := r.B
  have c0 := kk 0 (by decide) (by decide)
  refine r.fr ⟨?_, ?_, ?_, ?_, ?_, ?_, ?_, ?_, ?_, ?_, ?_⟩ (fun j h1 h2 => o j (fun f _ => by omega)) (fun k z => by cases z)
  · rw [o 0 (fun f _ => by omega), c0]; exact b.tk
  · rw [o 1 (fun f _ => by omega), c0]; exact b.lo
  · rw [o 2 (fun f _ => by omega), c0]; exact b.tr
  · rw [o 3 (fun f _ => by omega), c0]; exact b.rm
  · rw [o 4 (fun f _ => by omega)]; exact b.ev
  · intro v hv
    rw [o _ (fun f _ => by omega), kk 9 (by decide) (by decide)]; exact b.rt v hv
  · intro v hv
    rw [o _ (fun f _ => by omega), kk 10 (by decide) (by decide)]; exact b.ov v hv
  · intro j hj
    rw [o _ (fun f _ => by omega)]; exact b.ha j hj
  · intro j hj
    rw [o _ (fun f _ => by omega), o _ (fun f _ => by omega), o _ (fun f _ => by omega), o _ (fun f _ => by omega), o _ (fun f _ => by omega)]
    exact b.nd j hj
  · intro f hf
    have t := b.th f hf
    rw [dc_at e 128 0 D f (Nat.zero_le _) (by omega)]
    by_cases z : f < 64 ∧ ¬ V 1 f = 0
    · rw [if_pos z] at t
      rw [t, (b.en f z.1 z.2).1]
      have v1 := a1 f z.1
      by_cases w : V 2 f = nI e
      · rw [if_pos ⟨z.2, w⟩] at v1
        rw [if_pos ⟨rfl, w⟩, v1, if_neg (fun q => q.2 rfl)]
      · rw [if_neg (fun q => w q.2)] at v1
        rw [if_neg (fun q => w q.2), v1, if_pos z]
    · rw [if_neg z] at t
      rw [t, if_neg (fun q => absurd q.1 (by decide)), if_neg]
      intro q
      rw [a1 f q.1] at q
      by_cases w : ¬ V 1 f = 0 ∧ V 2 f = nI e
      · rw [if_pos w] at q; exact q.2 rfl
      · rw [if_neg w] at q; exact z q
  · intro f hf q
    rw [a1 f hf] at q
    have nz : ¬ (¬ V 1 f = 0 ∧ V 2 f = nI e) := fun z => by rw [if_pos z] at q; exact q rfl
    rw [if_neg nz] at q
    rw [o _ (fun f _ => by omega), o _ (fun f _ => by omega), o _ (fun f _ => by omega), o _ (fun f _ => by omega), o _ (fun f _ => by omega), o _ (fun f _ => by omega), o _ (fun f _ => by omega), o _ (fun f _ => by omega), a1 f hf, if_neg nz, kk 2 (by decide) (by decide), kk 3 (by decide) (by decide), kk 4 (by decide) (by decide), kk 6 (by decide) (by decide), kk 7 (by decide) (by decide), kk 8 (by decide) (by decide), cov_fr (kk 10 (by decide) (by decide))]
    exact b.en f hf q
theorem wF_cg {D D' : RowV} (c2 : CHw D) (hj : ∀ j, j < 401 → D' j = D j) {w : Nat} (hw : w < 4) (e : Nat) : wF D' w e = wF D w e := by
  unfold wF
  rw [hj (17 + 96 * w + 0) (by omega), hj (17 + 96 * w + 1) (by omega), hj (17 + 96 * w + 5) (by omega)]
  by_cases z : D (17 + 96 * w + 0) = 0 ∨ D (17 + 96 * w + 1) = 0
  · rw [if_pos z, if_pos z]
  · rw [if_neg z, if_neg z]
    obtain ⟨m, m1, m2, _⟩ := c2 w hw (fun q => z (Or.inl q)) (fun q => z (Or.inr q))
    rw [m2, ix_nI (by omega)]
    exact cnt_cong (fun k _ hk => by rw [hj (17 + 96 * w + (18 + 3 * k)) (by omega)])
theorem Rel.counts2 {U : NodV} {V : MemV} {H : OneV} {W : WkV} {D D' : RowV} {n vol t T : Nat} (r : Rel none U V H W D n) (i : Inv U V H W n vol t T (fun _ => 0)) {J : MJ} (h : RefL J) (I : MI) (hb : I 188 20 = -1) (G : RowV) (c : Int32) (hj : ∀ j, j < 401 → D' j = D j) (he : ∀ f, f < 128 → D' (701 + 9 * f + 0) = D (701 + 9 * f + 0) ∧ D' (701 + 9 * f + 1) = D (701 + 9 * f + 1) ∧ D' (701 + 9 * f + 7) = D (701 + 9 * f + 7)) : ∃ G', M_X10_counts [mR (some 188)] (rF I D' G c, J) = some (none, (rF I D' G' c, J)) ∧ ∀ e, e < 64 → ¬ V 1 e = 0 → (G' e = 0 ↔ hc V H W e = 0) := by
  obtain ⟨c1, c2, c3⟩ := r.ch i
  have d1 : CHd D' := fun k hk => by rw [hj (11 + k) (by omega)]; exact c1 k hk
  have d2 : CHw D' := fun w hw q0 q1 => by
    rw [hj (17 + 96 * w + 0) (by omega)] at q0
    rw [hj (17 + 96 * w + 1) (by omega)] at q1
    obtain ⟨m, m1, m2, m3⟩ := c2 w hw q0 q1
    exact ⟨m, m1, by rw [hj (17 + 96 * w + 5) (by omega)]; exact m2, fun k hk => by rw [hj (17 + 96 * w + (18 + 3 * k)) (by omega)]; exact m3 k hk⟩
  have d3 : CEd D' := fun k hk q => by
    rw [(he k hk).1] at q
    rw [(he k hk).2.1]
    exact c3 k hk q
  obtain ⟨G', g1, g2⟩ := w_counts h I D' G c d1 d2 d3 (Or.inl hb)
  refine ⟨G', g1, fun e e64 q => ?_⟩
  have ee : eF D' e = eF D e := by
    unfold eF
    have c0 : cnt (fun k => decide (¬ D' (701 + 9 * k + 0) = 0 ∧ D' (701 + 9 * k + 1) = nI e)) 0 128 = cnt (fun k => decide (¬ D (701 + 9 * k + 0) = 0 ∧ D (701 + 9 * k + 1) = nI e)) 0 128 := cnt_cong (fun k _ hk => by rw [(he k (by omega)).1, (he k (by omega)).2.1])
    rw [c0, (he e (by omega)).1, (he e (by omega)).2.2]
  have hh : hF D' e = hF D e := by
    unfold hF
    have c0 : cnt (fun k => decide (D' (11 + k) = nI e)) 0 6 = cnt (fun k => decide (D (11 + k) = nI e)) 0 6 := cnt_cong (fun k _ hk => by rw [hj (11 + k) (by omega)])
    have s0 : sm (fun w => wF D' w e) 0 4 = sm (fun w => wF D w e) 0 4 := sm_cong (fun w _ hw => wF_cg c2 hj (by omega) e)
    rw [c0, s0]
  have gq : G' e = nI (hc V H W e) := by
    rw [g2 e (by omega), ee, hh, r.eqe i e64 q, r.eqh i e, hb, if_neg (fun z => nI_m1 (show e < 2 ^ 31 by omega) z.symm)]
    have hs : hcC V e + hcV V e + (hcH H e + hcW W e + pnd none V W e) + 0 = hc V H W e := by
      have p0 : pnd none V W e = 0 := rfl
      unfold hc
      rw [p0]
      omega
    rw [hs]
  have hl := i.hle e
  rw [gq]
  constructor
  · intro z
    exact (nI_eq (by omega) (by omega)).mp (z.trans nI_0.symm)
  · intro z
    rw [z]; rfl
end
section
/-! An entry without its node, on both sides. -/
theorem emp0_o (D : RowV) {k e j : Nat} (hk : j ≠ 401 + 5 * k + 4) (h4 : j ≠ 701 + 9 * e + 4) (h3 : j ≠ 701 + 9 * e + 3) : (sD (sD (sD D (401 + 5 * k + 4) 0) (701 + 9 * e + 4) (D (701 + 9 * e + 4) + 1)) (701 + 9 * e + 3) (-1)) j = D j := by
  rw [sD_n _ _ h3, sD_n _ _ h4, sD_n _ _ hk]
theorem Rel.emp0 {U U' : NodV} {V V' : MemV} {H : OneV} {W : WkV} {D : RowV} {n vol : Nat} (r : Rel none U V H W D n) (hN : NodI U n vol) {e k : Nat} (e64 : e < 64) (e1 : ¬ V 1 e = 0) (kn : k < n) (u4 : ∀ j, U' 4 j = if j = k then 0 else U 4 j) (uk : ∀ q : Fin 6, q ≠ 4 → U' q = U q) (a4 : ∀ j, V' 4 j = if j = e then -1 else V 4 j) (a6 : ∀ j, V' 6 j = if j = e then V 6 e + 1 else V 6 j) (kk : ∀ q : Fin 12, q ≠ 4 → q ≠ 6 → V' q = V q) : Rel none U' V' H W (sD (sD (sD D (401 + 5 * k + 4) 0) (701 + 9 * e + 4) (D (701 + 9 * e + 4) + 1)) (701 + 9 * e + 3) (-1)) n := by
  have n60 := hN.n60
  have o := fun {j} hk h4 h3 => emp0_o D (k := k) (e := e) (j := j) hk h4 h3
  have dk : (sD (sD (sD D (401 + 5 * k + 4) 0) (701 + 9 * e + 4) (D (701 + 9 * e + 4) + 1)) (701 + 9 * e + 3) (-1)) (401 + 5 * k + 4) = 0 := by
    rw [sD_n _ _ (by omega), sD_n _ _ (by omega), sD_s]
  have d4 : (sD (sD (sD D (401 + 5 * k + 4) 0) (701 + 9 * e + 4) (D (701 + 9 * e + 4) + 1)) (701 + 9 * e + 3) (-1)) (701 + 9 * e + 4) = D (701 + 9 * e + 4) + 1 := by
    rw [sD_n _ _ (by omega), sD_s]
  have d3 : (sD (sD (sD D (401 + 5 * k + 4) 0) (701 + 9 * e + 4) (D (701 + 9 * e + 4) + 1)) (701 + 9 * e + 3) (-1)) (701 + 9 * e + 3) = -1 := sD_s _ _ _
  generalize (sD (sD (sD D (401 + 5 * k + 4) 0) (701 + 9 * e + 4) (D (701 + 9 * e + 4) + 1)) (701 + 9 * e + 3) (-1)) = D2 at o dk d4 d3 ⊢
  have b := r.B
  have c0 := kk 0 (by decide) (by decide)
  have c1 := kk 1 (by decide) (by decide)
  refine r.fr ⟨?_, ?_, ?_, ?_, ?_, ?_, ?_, ?_, ?_, ?_, ?_⟩ (fun j h1 h2 => o (by omega) (by omega) (by omega)) (fun k z => by cases z)
  · rw [o (by omega) (by omega) (by omega), c0]; exact b.tk
  · rw [o (by omega) (by omega) (by omega), c0]; exact b.lo
  · rw [o (by omega) (by omega) (by omega), c0]; exact b.tr
  · rw [o (by omega) (by omega) (by omega), c0]; exact b.rm
  · rw [o (by omega) (by omega) (by omega), uk 0 (by decide)]; exact b.ev
  · intro v hv
    rw [o (by omega) (by omega) (by omega), kk 9 (by decide) (by decide)]; exact b.rt v hv
  · intro v hv
    rw [o (by omega) (by omega) (by omega), kk 10 (by decide) (by decide)]; exact b.ov v hv
  · intro j hj
    rw [o (by omega) (by omega) (by omega)]; exact b.ha j hj
  · intro j hj
    rw [uk 1 (by decide), uk 2 (by decide), uk 3 (by decide), u4, o (by omega) (by omega) (by omega), o (j := 401 + 5 * j + 2) (by omega) (by omega) (by omega), o (j := 401 + 5 * j + 3) (by omega) (by omega) (by omega), o (j := 401 + 5 * j + 1) (by omega) (by omega) (by omega)]
    have q := b.nd j hj
    by_cases z : j = k
    · subst z
      rw [dk, if_pos rfl, if_pos rfl]
      exact ⟨q.1, q.2.1, q.2.2.1, rfl, fun w => absurd rfl w⟩
    · rw [if_neg z, o (by omega) (by omega) (by omega)]
      exact q
  · intro f hf
    rw [o (by omega) (by omega) (by omega)]
    rw [b.th f hf]
    rw [c1]
  · intro f hf q
    rw [c1] at q
    have en := b.en f hf q
    rw [o (j := 701 + 9 * f + 1) (by omega) (by omega) (by omega), o (j := 701 + 9 * f + 2) (by omega) (by omega) (by omega), o (j := 701 + 9 * f + 5) (by omega) (by omega) (by omega), o (j := 701 + 9 * f + 6) (by omega) (by omega) (by omega), o (j := 701 + 9 * f + 7) (by omega) (by omega) (by omega), o (j := 701 + 9 * f + 8) (by omega) (by omega) (by omega), c1, kk 2 (by decide) (by decide), kk 3 (by decide) (by decide), kk 7 (by decide) (by decide), kk 8 (by decide) (by decide), cov_fr (kk 10 (by decide) (by decide)), a4, a6]
    by_cases z : f = e
    · subst z
      rw [d3, d4, if_pos rfl, if_pos rfl, en.2.2.2.1]
      exact ⟨en.1, en.2.1, rfl, rfl, en.2.2.2.2⟩
    · rw [if_neg z, if_neg z, o (j := 701 + 9 * f + 3) (by omega) (by omega) (by omega), o (j := 701 + 9 * f + 4) (by omega) (by omega) (by omega)]
      exact en
theorem emp1_o (D : RowV) {k e j : Nat} (hk : j ≠ 401 + 5 * k + 4) (h4 : j ≠ 701 + 9 * e + 4) (h8 : j ≠ 701 + 9 * e + 8) (h1 : j ≠ 701 + 9 * e + 1) : (sD (sD (sD (sD D (401 + 5 * k + 4) 0) (701 + 9 * e + 4) (D (701 + 9 * e + 4) + 1)) (701 + 9 * e + 8) 1) (701 + 9 * e + 1) (-1)) j = D j := by
  rw [sD_n _ _ h1, sD_n _ _ h8, sD_n _ _ h4, sD_n _ _ hk]
theorem Rel.emp1 {U U' : NodV} {V V' : MemV} {H : OneV} {W : WkV} {D : RowV} {n vol : Nat} (r : Rel none U V H W D n) (hN : NodI U n vol) {e k : Nat} (e64 : e < 64) (e1 : ¬ V 1 e = 0) (kn : k < n) (u4 : ∀ j, U' 4 j = if j = k then 0 else U 4 j) (uk : ∀ q : Fin 6, q ≠ 4 → U' q = U q) (a1 : ∀ j, V' 1 j = if j = e then 2 else V 1 j) (a2 : ∀ j, V' 2 j = if j = e then -1 else V 2 j) (a6 : ∀ j, V' 6 j = if j = e then V 6 e + 1 else V 6 j) (kk : ∀ q : Fin 12, q ≠ 1 → q ≠ 2 → q ≠ 5 → q ≠ 6 → V' q = V q) : Rel none U' V' H W (sD (sD (sD (sD D (401 + 5 * k + 4) 0) (701 + 9 * e + 4) (D (701 + 9 * e + 4) + 1)) (701 + 9 * e + 8) 1) (701 + 9 * e + 1) (-1)) n := by
  have n60 := hN.n60
  have o := fun {j} hk h4 h8 h1 => emp1_o D (k := k) (e := e) (j := j) hk h4 h8 h1
  have dk : (sD (sD (sD (sD D (401 + 5 * k + 4) 0) (701 + 9 * e + 4) (D (701 + 9 * e + 4) + 1)) (701 + 9 * e + 8) 1) (701 + 9 * e + 1) (-1)) (401 + 5 * k + 4) = 0 := by
    rw [sD_n _ _ (by omega), sD_n _ _ (by omega), sD_n _ _ (by omega), sD_s]
  have d4 : (sD (sD (sD (sD D (401 + 5 * k + 4) 0) (701 + 9 * e + 4) (D (701 + 9 * e + 4) + 1)) (701 + 9 * e + 8) 1) (701 + 9 * e + 1) (-1)) (701 + 9 * e + 4) = D (701 + 9 * e + 4) + 1 := by
    rw [sD_n _ _ (by omega), sD_n _ _ (by omega), sD_s]
  have d8 : (sD (sD (sD (sD D (401 + 5 * k + 4) 0) (701 + 9 * e + 4) (D (701 + 9 * e + 4) + 1)) (701 + 9 * e + 8) 1) (701 + 9 * e + 1) (-1)) (701 + 9 * e + 8) = 1 := by
    rw [sD_n _ _ (by omega), sD_s]
  have d1 : (sD (sD (sD (sD D (401 + 5 * k + 4) 0) (701 + 9 * e + 4) (D (701 + 9 * e + 4) + 1)) (701 + 9 * e + 8) 1) (701 + 9 * e + 1) (-1)) (701 + 9 * e + 1) = -1 := sD_s _ _ _
  generalize (sD (sD (sD (sD D (401 + 5 * k + 4) 0) (701 + 9 * e + 4) (D (701 + 9 * e + 4) + 1)) (701 + 9 * e + 8) 1) (701 + 9 * e + 1) (-1)) = D2 at o dk d4 d8 d1 ⊢
  have b := r.B
  have c0 := kk 0 (by decide) (by decide) (by decide) (by decide)
  refine r.fr ⟨?_, ?_, ?_, ?_, ?_, ?_, ?_, ?_, ?_, ?_, ?_⟩ (fun j h1 h2 => o (by omega) (by omega) (by omega) (by omega)) (fun k z => by cases z)
  · rw [o (by omega) (by omega) (by omega) (by omega), c0]; exact b.tk
  · rw [o (by omega) (by omega) (by omega) (by omega), c0]; exact b.lo
  · rw [o (by omega) (by omega) (by omega) (by omega), c0]; exact b.tr
  · rw [o (by omega) (by omega) (by omega) (by omega), c0]; exact b.rm
  · rw [o (by omega) (by omega) (by omega) (by omega), uk 0 (by decide)]; exact b.ev
  · intro v hv
    rw [o (by omega) (by omega) (by omega) (by omega), kk 9 (by decide) (by decide) (by decide) (by decide)]; exact b.rt v hv
  · intro v hv
    rw [o (by omega) (by omega) (by omega) (by omega), kk 10 (by decide) (by decide) (by decide) (by decide)]; exact b.ov v hv
  · intro j hj
    rw [o (by omega) (by omega) (by omega) (by omega)]; exact b.ha j hj
  · intro j hj
    rw [uk 1 (by decide), uk 2 (by decide), uk 3 (by decide), u4, o (by omega) (by omega) (by omega) (by omega), o (j := 401 + 5 * j + 2) (by omega) (by omega) (by omega) (by omega), o (j := 401 + 5 * j + 3) (by omega) (by omega) (by omega) (by omega), o (j := 401 + 5 * j + 1) (by omega) (by omega) (by omega) (by omega)]
    have q := b.nd j hj
    by_cases z : j = k
    · subst z
      rw [dk, if_pos rfl, if_pos rfl]
      exact ⟨q.1, q.2.1, q.2.2.1, rfl, fun w => absurd rfl w⟩
    · rw [if_neg z, o (by omega) (by omega) (by omega) (by omega)]
      exact q
  · intro f hf
    rw [o (by omega) (by omega) (by omega) (by omega)]
    rw [b.th f hf]
    by_cases z : f = e
    · rw [z, a1, if_pos rfl, if_pos ⟨e64, e1⟩, if_pos ⟨e64, by decide⟩]
    · rw [a1, if_neg z]
  · intro f hf q
    have q' : ¬ V 1 f = 0 := by
      by_cases z : f = e
      · rw [z]; exact e1
      · rw [a1, if_neg z] at q; exact q
    have en := b.en f hf q'
    rw [o (j := 701 + 9 * f + 2) (by omega) (by omega) (by omega) (by omega), o (j := 701 + 9 * f + 3) (by omega) (by omega) (by omega) (by omega), o (j := 701 + 9 * f + 5) (by omega) (by omega) (by omega) (by omega), o (j := 701 + 9 * f + 6) (by omega) (by omega) (by omega) (by omega), o (j := 701 + 9 * f + 7) (by omega) (by omega) (by omega) (by omega), kk 3 (by decide) (by decide) (by decide) (by decide), kk 4 (by decide) (by decide) (by decide) (by decide), kk 7 (by decide) (by decide) (by decide) (by decide), kk 8 (by decide) (by decide) (by decide) (by decide), cov_fr (kk 10 (by decide) (by decide) (by decide) (by decide)), a1, a2, a6]
    by_cases z : f = e
    · subst z
      rw [d1, d4, d8, if_pos rfl, if_pos rfl, if_pos rfl, en.2.2.2.1]
      exact ⟨rfl, en.2.1, en.2.2.1, rfl, en.2.2.2.2.1, en.2.2.2.2.2.1, en.2.2.2.2.2.2.1, rfl⟩
    · rw [if_neg z, if_neg z, if_neg z, o (j := 701 + 9 * f + 1) (by omega) (by omega) (by omega) (by omega), o (j := 701 + 9 * f + 4) (by omega) (by omega) (by omega) (by omega), o (j := 701 + 9 * f + 8) (by omega) (by omega) (by omega) (by omega)]
      exact en
end
section
/-! Something removed, on both sides. -/
theorem Rfs.remove : Rfs (M_X10_remove [mR (some 188)]) 3 := by
  intro J X X1 y h hp hc
  rw [E_X10_remove]
  simp only [h.kt, if_true, hp, Option.bind_some, asI_I, h.fz, w_refuses h _ (show (3 : Int32) = nI 3 from rfl) (by decide)]
  rcases hc with z | ⟨z1, z2⟩
  · rw [if_pos z]
  · rw [if_neg z1, if_pos z2]
theorem w_remove_loop {J : MJ} (h : RefL J) (I : MI) (D G : RowV) {e : Nat} (x1 : Int32) : Ev T_X10_remove 101 [some (mR (some 188)), some (mI x1), some (mI 0)] [] (rF I D G (nI e), J) = Ev T_X10_remove 101 [some (mR (some 188)), some (mI x1), some (mI (nI 128))] [] (rF I (itr (dcD e) 0 128 D) G (nI e), J) := by
  have s1 := loop_all (fun k D => Ev T_X10_remove 101 [some (mR (some 188)), some (mI x1), some (mI (nI k))] [] (rF I D G (nI e), J)) (dcD e) 128 D (fun k D hk => by
    try dsimp only
    rw [E_X10_remove_101, if_neg (show ¬ (128 : Int32) ≤ nI k from nI_ge hk (by decide))]
    simp only [h.kt, if_true, w_its h _ 0 (show (0 : Int32) = nI 0 from rfl) hk (by decide), w_its h _ 1 (show (1 : Int32) = nI 1 from rfl) hk (by decide), Option.bind_some, asI_I, rF_D, nI_1, h.fi, rF_c, h.f18, w_entryAt _ k 0 (show (0 : Int32) = nI 0 from rfl), h.stD _ _ rfl (show 701 + 9 * k + 0 < 1853 by omega), rF_sD]
    unfold dcD
    by_cases a : D (701 + 9 * k + 0) = 1
    · rw [if_pos a]
      by_cases b : D (701 + 9 * k + 1) = nI e
      · rw [if_pos b, if_pos ⟨a, b⟩]
      · rw [if_neg b, if_neg (fun z => b z.2)]
    · rw [if_neg a, if_neg (fun z => a z.1)])
  try dsimp only at s1
  rw [show (nI 0) = 0 from rfl] at s1
  exact s1
theorem uv_back (V : MemV) (q : Fin 12) (e : Nat) (c : Int32) : uv (uv V q e c) q e (V q e) = V := by
  funext k j
  simp only [uv]
  by_cases z : k = q ∧ j = e
  · rw [if_pos z, z.1, z.2]
  · rw [if_neg z, if_neg z]
/-- what the class has when a node is taken away -/
theorem Inv.removed {U : NodV} {V : MemV} {H : OneV} {W : WkV} {n vol t T : Nat} (i : Inv U V H W n vol t T (fun _ => 0)) (h30 : T + 1 ≤ 1000000000) {e k : Nat} (at' : At V e) (e2 : ¬ V 2 e = -1) (vc : ∀ v, v < 3 → ¬ V 10 v = nI e) (e4 : V 4 e = nI k) (kn : k < n) (k4 : ¬ U 4 k = 0) (nc : ∀ j, j < n → ¬ U 4 j = 0 → ¬ U 2 j = nI k) : ∃ B : MemV, Inv U B H W n vol t T (fun _ => 0) ∧ (∀ f, f < 64 → B 1 f = if ¬ V 1 f = 0 ∧ V 2 f = nI e then 0 else V 1 f) ∧ (∀ q : Fin 12, q ≠ 1 → q ≠ 5 → B q = V q) ∧ ¬ B 1 e = 0 ∧ Inv (uv U 4 k 0) (gV_X1_empty V (nI e)) H W n vol t (T + 1) (fun _ => 0) ∧ ((hc B H W e = 0 ∧ (∀ j, gV_X1_empty V (nI e) 4 j = if j = e then -1 else B 4 j) ∧ (∀ j, gV_X1_empty V (nI e) 6 j = if j = e then B 6 e + 1 else B 6 j) ∧ ∀ q : Fin 12, q ≠ 4 → q ≠ 6 → gV_X1_empty V (nI e) q = B q) ∨ (¬ hc B H W e = 0 ∧ (∀ j, gV_X1_empty V (nI e) 1 j = if j = e then 2 else B 1 j) ∧ (∀ j, gV_X1_empty V (nI e) 2 j = if j = e then -1 else B 2 j) ∧ (∀ j, gV_X1_empty V (nI e) 6 j = if j = e then B 6 e + 1 else B 6 j) ∧ ∀ q : Fin 12, q ≠ 1 → q ≠ 2 → q ≠ 5 → q ≠ 6 → gV_X1_empty V (nI e) q = B q)) := by
  have n60 := i.N.n60
  have e64 := at'.1
  have e1 := at'.2.1
  have e0 : ¬ V 1 e = 0 := by rw [e1]; exact i10
  have ab : ∀ f, f < 64 → ¬ V 1 f = 0 → V 2 f = nI e → V 4 f = -1 := fun f hf q1 q2 => by
    have f1 : V 1 f = 1 := by
      rcases i.M.st f hf with z | z | z
      · exact absurd z q1
      · exact z
      · have := (i.M.go f hf z).1
        rw [q2] at this
        exact absurd this (nI_m1 (by omega))
    obtain ⟨p, y1, y2, y3, y4, y5⟩ := i.M.ch f hf f1 (by rw [q2]; exact nI_m1 (by omega))
    have pe : p = e := (nI_eq (by omega) (by omega)).mp (y2.symm.trans q2)
    rw [pe, e4] at y5
    rw [y5]
    rcases i.N.fd (nI k) (V 3 f) with ⟨z, _⟩ | ⟨j, j1, _, j3, j4, _⟩
    · exact z
    · exact absurd j4 (nc j j1 j3)
  have ee : ¬ V 2 e = nI e := fun z => at'.2.2 (ab e e64 e0 z)
  obtain ⟨p, p64, p2, p1, _, _⟩ := i.M.ch e e64 e1 e2
  have pe : p ≠ e := fun z => ee (by rw [p2, z])
  have pne : ¬ V 2 p = nI e := fun z => by
    have pa := ab p p64 (by rw [p1]; exact i10) z
    obtain ⟨_, _, y2, _, y4, _⟩ := i.M.ch e e64 e1 e2
    have : _ = p := (nI_eq (by omega) (by omega)).mp (y2.symm.trans p2)
    subst this
    obtain ⟨_, b1, b2, _⟩ := i.N.fo y4
    rw [pa] at b2
    exact nI_m1 (by omega) b2.symm
  have c1 : uv V 6 e (V 6 e + 1) 1 = V 1 := uv_k _ _ _ _ _ (by decide)
  have c2 : uv V 6 e (V 6 e + 1) 2 = V 2 := uv_k _ _ _ _ _ (by decide)
  have c4 : uv V 6 e (V 6 e + 1) 4 = V 4 := uv_k _ _ _ _ _ (by decide)
  obtain ⟨V2, l1, l2, l3, l4⟩ := empty_loop (U := U) (H := H) (W := W) (n := n) (vol := vol) (t := t) (T := T) e64 (c := V 6 e) 64 0 (uv V 6 e (V 6 e + 1)) (by omega) (by rw [uv_back]; exact i) (fun f hf q1 q2 => by
    rw [c1] at q1
    rw [c2] at q2
    rw [c4]
    exact ab f hf q1 q2) (fun f hf => by omega)
  rw [c1, c2] at l3
  have em : gV_X1_empty V (nI e) = (if V2 5 e = 0 then uv V2 4 e (-1) else gV_X1_release (uv (uv V2 1 e 2) 2 e (-1)) (V2 2 e)) := by
    rw [← l1]
    show o_X1_empty V (nI e) = _
    unfold o_X1_empty
    rw [Inv.isE e64 e0, if_neg i10, ix_nI (by omega)]
  have v2e : V2 1 e = 1 := by rw [l3 e e64, if_neg (fun z => ee z.2), e1]
  have v2p : V2 1 p = 1 := by rw [l3 p p64, if_neg (fun z => pne z.2), p1]
  have v26 : ∀ j, V2 6 j = if j = e then V 6 e + 1 else V 6 j := fun j => by
    rw [l4 6 (by decide) (by decide)]
    by_cases z : j = e
    · rw [z, uv_s, if_pos rfl]
    · rw [uv_n _ _ _ _ _ _ (fun w => z w.2), if_neg z]
  have b6 : ∀ j, uv V2 6 e (V 6 e) 6 j = V 6 j := fun j => by
    by_cases z : j = e
    · rw [z, uv_s]
    · rw [uv_n _ _ _ _ _ _ (fun w => z w.2), v26, if_neg z]
  have bk : ∀ q : Fin 12, q ≠ 6 → uv V2 6 e (V 6 e) q = V2 q := fun q hq => uv_k _ _ _ _ _ hq
  have bV : ∀ q : Fin 12, q ≠ 1 → q ≠ 5 → uv V2 6 e (V 6 e) q = V q := fun q q1 q5 => by
    by_cases z : q = 6
    · rw [z]; funext j; exact b6 j
    · rw [bk q z, l4 q q1 q5, uv_k _ _ _ _ _ z]
  have k0 : ∀ q : Fin 6, q ≠ 4 → uv U 4 k 0 q = U q := fun q hq => uv_k _ _ _ _ _ hq
  have u4 : ∀ j, uv U 4 k 0 4 j = if j = k then 0 else U 4 j := fun j => by simp [uv]
  have B1 : ∀ f, f < 64 → uv V2 6 e (V 6 e) 1 f = if ¬ V 1 f = 0 ∧ V 2 f = nI e then 0 else V 1 f := fun f hf => by rw [bk 1 (by decide), l3 f hf]
  have Be : uv V2 6 e (V 6 e) 1 e = 1 := by rw [bk 1 (by decide), v2e]
  have hz := l2.hz e64 (by rw [Be]; exact i10)
  rw [bk 5 (by decide)] at hz
  have ec : ∀ f, f < 64 → ¬ uv V2 6 e (V 6 e) 1 f = 0 → ¬ uv V2 6 e (V 6 e) 2 f = nI e := fun f hf q z => by
    rw [bV 2 (by decide) (by decide)] at z
    rw [B1 f hf] at q
    by_cases w : V 1 f = 0
    · rw [if_neg (fun y => y.1 w)] at q; exact q w
    · rw [if_pos ⟨w, z⟩] at q; exact q rfl
  refine ⟨uv V2 6 e (V 6 e), l2, B1, bV, by rw [Be]; exact i10, ?_⟩
  by_cases h5 : V2 5 e = 0
  · have hc0 := (hz.mp h5).1
    have a4 : ∀ j, gV_X1_empty V (nI e) 4 j = if j = e then -1 else uv V2 6 e (V 6 e) 4 j := fun j => by
      rw [em, if_pos h5, bk 4 (by decide)]
      by_cases z : j = e
      · rw [z, uv_s, if_pos rfl]
      · rw [uv_n _ _ _ _ _ _ (fun w => z w.2), if_neg z]
    have a6 : ∀ j, gV_X1_empty V (nI e) 6 j = if j = e then uv V2 6 e (V 6 e) 6 e + 1 else uv V2 6 e (V 6 e) 6 j := fun j => by
      rw [em, if_pos h5, uv_k _ _ _ _ _ (by decide), v26, b6, b6]
    have kk : ∀ q : Fin 12, q ≠ 4 → q ≠ 6 → gV_X1_empty V (nI e) q = uv V2 6 e (V 6 e) q := fun q q4 q6 => by
      rw [em, if_pos h5, uv_k _ _ _ _ _ q4, bk q q6]
    refine ⟨?_, Or.inl ⟨hc0, a4, a6, kk⟩⟩
    exact l2.gone0 h30 e64 Be (by rw [bV 2 (by decide) (by decide)]; exact p2) p64 (by rw [bV 4 (by decide) (by decide)]; exact e4) kn nc ec (fun v hv => by rw [bV 10 (by decide) (by decide)]; exact vc v hv) u4 k0 hc0 a4 a6 kk
  · have hc0 : ¬ hc (uv V2 6 e (V 6 e)) H W e = 0 := fun z => h5 (hz.mpr ⟨z, rfl⟩)
    have v2 : V2 2 e = nI p := by rw [← p2, ← bV 2 (by decide) (by decide), bk 2 (by decide)]
    have m1 : ∀ j, uv (uv V2 1 e 2) 2 e (-1) 1 j = if j = e then 2 else V2 1 j := fun j => by
      rw [uv_k _ _ _ _ _ (by decide)]
      by_cases z : j = e
      · rw [z, uv_s, if_pos rfl]
      · rw [uv_n _ _ _ _ _ _ (fun w => z w.2), if_neg z]
    have a1 : ∀ j, gV_X1_empty V (nI e) 1 j = if j = e then 2 else uv V2 6 e (V 6 e) 1 j := fun j => by
      rw [em, if_neg h5, v2, re_1 _ p64, if_neg, m1, bk 1 (by decide)]
      rintro ⟨_, z, _⟩
      rw [m1, if_neg pe, v2p] at z
      exact absurd z (by decide)
    have a2 : ∀ j, gV_X1_empty V (nI e) 2 j = if j = e then -1 else uv V2 6 e (V 6 e) 2 j := fun j => by
      rw [em, if_neg h5, re_k _ _ _ (by decide) (by decide), bk 2 (by decide)]
      by_cases z : j = e
      · rw [z, uv_s, if_pos rfl]
      · rw [uv_n _ _ _ _ _ _ (fun w => z w.2), if_neg z, uv_k _ _ _ _ _ (by decide)]
    have a5 : ∀ j, gV_X1_empty V (nI e) 5 j = if j = p then uv V2 6 e (V 6 e) 5 p - 1 else uv V2 6 e (V 6 e) 5 j := fun j => by
      rw [em, if_neg h5, v2, re_5 _ p64, uv_k _ _ _ _ _ (by decide), uv_k _ _ _ _ _ (by decide), bk 5 (by decide)]
    have a6 : ∀ j, gV_X1_empty V (nI e) 6 j = if j = e then uv V2 6 e (V 6 e) 6 e + 1 else uv V2 6 e (V 6 e) 6 j := fun j => by
      rw [em, if_neg h5, re_k _ _ _ (by decide) (by decide), uv_k _ _ _ _ _ (by decide), uv_k _ _ _ _ _ (by decide), v26, b6, b6]
    have kk : ∀ q : Fin 12, q ≠ 1 → q ≠ 2 → q ≠ 5 → q ≠ 6 → gV_X1_empty V (nI e) q = uv V2 6 e (V 6 e) q := fun q q1 q2 q5 q6 => by
      rw [em, if_neg h5, re_k _ _ _ q1 q5, uv_k _ _ _ _ _ q2, uv_k _ _ _ _ _ q1, bk q q6]
    refine ⟨?_, Or.inr ⟨hc0, a1, a2, a6, kk⟩⟩
    exact l2.gone1 h30 e64 Be (by rw [bV 2 (by decide) (by decide)]; exact p2) p64 (by rw [bV 4 (by decide) (by decide)]; exact e4) kn nc ec (fun v hv => by rw [bV 10 (by decide) (by decide)]; exact vc v hv) u4 k0 hc0 a1 a2 a5 a6 kk
end
section
/-! Something removed, on both sides: the act. -/
theorem win17 {I X : MI} (wf : WF I X) (U' : NodV) (V' : MemV) : Win (pt (pt X 1 U') 17 V') U' V' (vw 1 I 29) (wks I 31) := by
  obtain ⟨_, _, e3, e4, _⟩ := wf
  have oX : ∀ y, 29 ≤ y → pt (pt X 1 U') 17 V' y = X y := fun y q => by rw [pt_out (by omega), pt_out (by omega)]
  refine ⟨?_, vw_pt _ _ _, ?_, fun j hj => ?_⟩
  · rw [vw_out _ _ (by decide), vw_pt]
  · rw [← e3]; exact vw_fr (fun y _ _ => oX y (by omega))
  · rw [wks_fr (I := I) (fun y p q => by rw [oX y (by omega), e4 y p (by omega)]) hj]; exact WkEq.refl _
theorem win17r {I X : MI} (wf : WF I X) (U' : NodV) (V' : MemV) (k : Nat) : Win (rfz (pt (pt X 1 U') 17 V') k) U' V' (vw 1 I 29) (wks I 31) := by
  obtain ⟨a, b, c, d⟩ := win17 wf U' V'
  refine ⟨?_, ?_, ?_, fun j hj => ?_⟩
  · rw [vw_fr (I := pt (pt X 1 U') 17 V') (fun y _ _ => rfz_o _ _ (by omega))]; exact a
  · rw [vw_fr (I := pt (pt X 1 U') 17 V') (fun y _ _ => rfz_o _ _ (by omega))]; exact b
  · rw [vw_fr (I := pt (pt X 1 U') 17 V') (fun y _ _ => rfz_o _ _ (by omega))]; exact c
  · rw [wks_fr (I := pt (pt X 1 U') 17 V') (fun y p q => rfz_o _ _ (by omega)) hj]; exact d j hj
theorem o17 (X : MI) (U' : NodV) (V' : MemV) {y : Nat} (q : y = 0 ∨ (7 ≤ y ∧ y < 17) ∨ 29 ≤ y) : pt (pt X 1 U') 17 V' y = X y := by rw [pt_out (by omega), pt_out (by omega)]
theorem o17r (X : MI) (U' : NodV) (V' : MemV) (k : Nat) {y : Nat} (q : y = 0 ∨ (7 ≤ y ∧ y < 17) ∨ 29 ≤ y) (q2 : y ≠ 186) : rfz (pt (pt X 1 U') 17 V') k y = X y := by rw [rfz_o _ _ q2, o17 X U' V' q]
theorem r17 {I X : MI} (x186 : X 186 = I 186) (U' : NodV) (V' : MemV) (k j : Nat) : rfz (pt (pt X 1 U') 17 V') k 186 j = if j = k then I 186 k + 1 else I 186 j := by
  unfold rfz
  rw [up2_r, o17 X U' V' (by decide), x186]
theorem Told.t13 {I : MI} {J : MJ} {T B0 : Nat} (td : Told I J T B0) {Y1 : MI} (g2 : ∀ k, k ≠ 1 → k ≠ 2 → k ≠ 3 → k ≠ 15 → Y1 188 k = I 188 k) : ¬ bz (Y1 188 13) = 0 := by
  rw [g2 13 (by decide) (by decide) (by decide) (by decide)]
  obtain ⟨_, _, _, _, _, z, _⟩ := td
  exact z
theorem P_remove {I : MI} {J : MJ} {T B0 : Nat} (h : St I J T B0) (h30 : T + 10001 ≤ 1000000000) : Pair I J T B0 (M_X9_remove [mR (some 0)]) (M_X10_remove [mR (some 188)]) := by
  obtain ⟨n, t1, t2, t3⟩ := h.2.1
  have T4 := t1.1
  by_cases hy : (rowO I n).1 = 1
  · rcases h.2.2.2.2.2.2.2.2.2 with td | u
    · obtain ⟨vol, nn, t, X, J1, hv, i, c, r, k1, kl, rl, wf, x186, rest⟩ := act_pre (n := n) h h30 td t1 t2 t3 hy
      have e1 := wf.1
      have e2 := wf.2.1
      have n60 := i.N.n60
      have uE := u_remove h.1.1 I T4 t1.2.1 hy k1 kl
      unfold q_X8_removeAt gU_X8_removeAt gV_X8_removeAt at uE
      rw [e1, e2] at uE
      have ip := i.T (show T ≤ T + 10000 by omega) (by omega)
      have tT := i.Z.tT
      have plain : ∀ (Z : MI) (l' : Nat), Pth (vw 2 X 158) (Z 192) l' → l' ≤ 12 → Z 188 20 = -1 → Z 188 21 = -1 → Z 194 = I 194 → ∃ D' G' c' y t', M_X10_isPlain [mR (some 188), mR (some 192), mI (nI l')] (Z, J1) = some (some (mI y), (rF Z D' G' c', J1)) ∧ Stq none (vw 6 I 1) (vw 12 I 17) (gV_X1_walk 12 (vw 2 X 158) (vw 6 I 1) (vw 12 I 17) (vw 2 X 158 0 1)) (vw 1 I 29) (wks I 31) D' nn vol t' (T + 10000) 0 (fun _ => 0) ∧ Pla (gV_X1_walk 12 (vw 2 X 158) (vw 6 I 1) (vw 12 I 17) (vw 2 X 158 0 1)) (q_X1_walk 12 (vw 2 X 158) (vw 6 I 1) (vw 12 I 17) (vw 2 X 158 0 1)) y c' := by
        intro Z l' pth l12 z20 z21 zD
        obtain ⟨D', G', c', y, t', w1, w2, w3, w4, w5⟩ := r.isPlain ip c (fun e _ z => absurd rfl z) rl Z (by rw [z20]; exact Or.inl ⟨rfl, fun _ => rfl⟩) z21 (Z 195) (Z 188 22) rl.s14 (by decide) (L := 12) pth l12 (by decide) (by omega) (by omega)
        rw [← zD, rF_id] at w1
        exact ⟨D', G', c', y, t', w1, w2, w5⟩
      generalize q_X1_walk 12 (vw 2 X 158) (vw 6 I 1) (vw 12 I 17) (vw 2 X 158 0 1) = Q at uE plain
      generalize gV_X1_walk 12 (vw 2 X 158) (vw 6 I 1) (vw 12 I 17) (vw 2 X 158 0 1) = V1 at uE plain
      obtain ⟨Z0, Y0, l0, _, _, _, _, b0, p0, x0, _, f0, _⟩ := rest X (fun _ _ _ => rfl)
      obtain ⟨D0, G0, c0, y0, t0, _, s0, w0⟩ := plain Z0 l0 p0 b0 f0.2.1 f0.2.2.1 f0.1
      rcases w0 with ⟨_, a', _, qa, at', cc, v2, vc⟩ | ⟨y00, bad⟩
      · have a64 := at'.1
        have a0 : ¬ V1 1 a' = 0 := by rw [at'.2.1]; exact i10
        obtain ⟨k, kn, ke, k4⟩ := s0.2.1.M.nk i.N at'
        have nodeOf : q_X1_nodeOf V1 Q = nI k := by
          unfold q_X1_nodeOf
          rw [qa, Inv.isE a64 a0, if_neg i10, ix_nI (by omega), ke]
        have km : ¬ nI k = -1 := nI_m1 (by omega)
        rw [if_neg cc, if_neg cc, if_neg cc, nodeOf] at uE
        have ref1 : ∀ (I1 Y1 Z : MI) (l' : Nat) (D' G' : RowV) (t1 : Nat), M_X10_isPath [mR (some 188)] (I1, J1) = some (some (mI 1), (Y1, J1)) → (∀ k, k ≠ 1 → k ≠ 2 → k ≠ 3 → k ≠ 15 → Y1 188 k = I 188 k) → M_X10_keeps [mR (some 188)] (Y1, J1) = some (none, (Z, J1)) → Z 188 15 = nI l' → M_X10_isPlain [mR (some 188), mR (some 192), mI (nI l')] (Z, J1) = some (some (mI 1), (rF Z D' G' (nI a'), J1)) → Stq none (vw 6 I 1) (vw 12 I 17) V1 (vw 1 I 29) (wks I 31) D' nn vol t1 (T + 10000) 0 (fun _ => 0) → M_X10_remove [mR (some 188)] (I1, J1) = if q_X2_howManyIn (vw 6 I 1) (nI k) ≤ 0 then Ev T_X10_remove 101 [some (mR (some 188)), some (mI (nI k)), some (mI (nI 128))] [] (rF Z (itr (dcD a') 0 128 (sD (sD D' (401 + 5 * k + 4) 0) (701 + 9 * a' + 4) (D' (701 + 9 * a' + 4) + 1))) G' (nI a'), J1) else some (some (mI (-1)), (rfR (rF Z D' G' (nI a')) 3, J1)) := by
          intro I1 Y1 Z l' D' G' t1 g1 g2 g4 g5 g6 st1
          have nm := w_nodeMany (I := rF Z D' G' (nI a')) rl i.N (by rw [rF_D]; exact st1.1) (nI k)
          rw [if_neg km] at nm
          have b1 := st1.1.B.en a' a64 a0
          have dk : D' (701 + 9 * a' + 3) = nI k := by rw [b1.2.2.1, ke]
          rw [E_X10_remove]
          simp only [rl.kt, if_true, g1, Option.bind_some, asI_I, if_neg i10, rl.fz, if_neg (td.t13 g2), g4, asV_n, rl.f14, rl.fi, g5, g6, rF_c, w_its rl _ 3 (show (3 : Int32) = nI 3 from rfl) (show a' < 128 by omega) (by decide), rF_D, dk, nm, rl.f18, w_nodeAt _ k 4 (show (4 : Int32) = nI 4 from rfl), rl.stD _ _ (show nI (401 + 5 * k + 4) = nI (401 + 5 * k + 4) from rfl) (show 401 + 5 * k + 4 < 1853 by omega), rF_sD, w_entryAt _ a' 4 (show (4 : Int32) = nI 4 from rfl), rl.ldD _ (show nI (701 + 9 * a' + 4) = nI (701 + 9 * a' + 4) from rfl) (show 701 + 9 * a' + 4 < 1853 by omega), rl.stD _ _ (show nI (701 + 9 * a' + 4) = nI (701 + 9 * a' + 4) from rfl) (show 701 + 9 * a' + 4 < 1853 by omega), sD_n _ _ (show 701 + 9 * a' + 4 ≠ 401 + 5 * k + 4 by omega), w_refuses rl _ (show (3 : Int32) = nI 3 from rfl) (by decide), w_remove_loop rl]
        by_cases few : q_X2_howManyIn (vw 6 I 1) (nI k) ≤ 0
        · have nc : ∀ j, j < nn → ¬ vw 6 I 1 4 j = 0 → ¬ vw 6 I 1 2 j = nI k := by
            unfold q_X2_howManyIn at few
            have cl := cnt_le (fun j => decide (¬ vw 6 I 1 4 j = 0 ∧ vw 6 I 1 2 j = nI k)) (evN (vw 6 I 1)) 0
            have ev := i.N.evn
            rw [ev] at few cl
            have z0 : cnt (fun j => decide (¬ vw 6 I 1 4 j = 0 ∧ vw 6 I 1 2 j = nI k)) 0 nn = 0 := by
              rcases Nat.eq_zero_or_pos (cnt (fun j => decide (¬ vw 6 I 1 4 j = 0 ∧ vw 6 I 1 2 j = nI k)) 0 nn) with z | z
              · exact z
              · exact absurd few (nI_nle z (by omega))
            intro j hj q1 q2
            have := cnt_z z0 j (Nat.zero_le _) (by omega)
            simp only [decide_eq_false_iff_not] at this
            exact this ⟨q1, q2⟩
          obtain ⟨B, iB, B1, BV, Be, i2, hB⟩ := s0.2.1.removed (by omega) at' v2 vc ke kn k4 nc
          have tk : gU_X2_take (vw 6 I 1) (nI k) = uv (vw 6 I 1) 4 k 0 := by
            unfold gU_X2_take
            rw [i.N.ex kn, if_neg k4, if_neg i10, ix_nI (by omega)]
          rw [if_pos few, if_pos few, if_pos few, tk, qa, if_pos (nI_pos' (show k < 2 ^ 31 by omega))] at uE
          obtain ⟨Z, Y1, l', g1, g2, g3, g4, l12, pth, x158, z15, zf, fin⟩ := rest (pt (pt X 1 (uv (vw 6 I 1) 4 k 0)) 17 (gV_X1_empty V1 (nI a'))) (fun y q _ => o17 _ _ _ (by omega))
          obtain ⟨D', G', c', y, t', w1, w2, w5⟩ := plain Z l' pth l12 zf.2.1 zf.2.2.1 zf.1
          rcases w5 with ⟨y1, b', cb, qb, _⟩ | ⟨_, bad⟩
          · have bb : c' = nI a' := by rw [cb, ← qb, qa]
            subst y1 bb
            have rE := ref1 _ _ _ _ _ _ _ g1 g2 g4 z15 w1 w2
            rw [if_pos few, dc_sD a' _ _ (fun i _ => by omega), dc_sD a' _ _ (fun i _ => by omega)] at rE
            have rB := w2.1.below i.N B1 BV
            have d4 : D' (701 + 9 * a' + 4) = itr (dcD a') 0 128 D' (701 + 9 * a' + 4) := (dc_o a' 128 0 D' _ (fun i _ _ => by omega)).symm
            rw [d4] at rE
            generalize itr (dcD a') 0 128 D' = D1 at rE rB
            obtain ⟨G2, q1, q2⟩ := rB.counts2 iB rl Z zf.2.1 G' (nI a') (D' := sD (sD D1 (401 + 5 * k + 4) 0) (701 + 9 * a' + 4) (D1 (701 + 9 * a' + 4) + 1)) (fun j hj => by rw [sD_n _ _ (by omega), sD_n _ _ (by omega)]) (fun f hf => by
              rw [sD_n _ _ (by omega), sD_n _ _ (by omega), sD_n _ _ (by omega), sD_n _ _ (by omega), sD_n _ _ (by omega), sD_n _ _ (by omega)]
              exact ⟨rfl, rfl, rfl⟩)
            have g0 := q2 a' a64 Be
            have k0 : ∀ q : Fin 6, q ≠ 4 → uv (vw 6 I 1) 4 k 0 q = vw 6 I 1 q := fun q hq => uv_k _ _ _ _ _ hq
            have u4 : ∀ j, uv (vw 6 I 1) 4 k 0 4 j = if j = k then 0 else vw 6 I 1 4 j := fun j => by simp [uv]
            rw [E_X10_remove_101, if_pos (show (128 : Int32) ≤ nI 128 by decide)] at rE
            simp only [rl.kt, if_true, q1, Option.bind_some, asV_n, rl.f19, rl.fi, rF_c, rl.ldG _ rfl (show a' < 128 by omega), rF_G, rl.f18, w_entryAt _ a' 3 (show (3 : Int32) = nI 3 from rfl), w_entryAt _ a' 8 (show (8 : Int32) = nI 8 from rfl), w_entryAt _ a' 1 (show (1 : Int32) = nI 1 from rfl), asI_I, rl.stD _ _ (show nI (701 + 9 * a' + 3) = nI (701 + 9 * a' + 3) from rfl) (show 701 + 9 * a' + 3 < 1853 by omega), rl.stD _ _ (show nI (701 + 9 * a' + 8) = nI (701 + 9 * a' + 8) from rfl) (show 701 + 9 * a' + 8 < 1853 by omega), rl.stD _ _ (show nI (701 + 9 * a' + 1) = nI (701 + 9 * a' + 1) from rfl) (show 701 + 9 * a' + 1 < 1853 by omega), rF_sD] at rE
            have cB : CntI B := s0.2.2.1.sub (fun f hf q => by
              rw [B1 f hf] at q
              by_cases z : ¬ V1 1 f = 0 ∧ V1 2 f = nI a'
              · exact z.1
              · rw [if_neg z] at q; exact q) (BV 9 (by decide) (by decide))
            rcases hB with ⟨hz, m4, m6, mk⟩ | ⟨hz, m1, m2, m6, mk⟩
            · rw [if_pos (g0.mpr hz)] at rE
              have r2 := rB.emp0 i.N a64 Be kn u4 k0 m4 m6 mk
              exact ⟨nI k, _, _, J1, uE, rE, fin1 fin zf h.2.2.2.1 (by rw [o17 _ _ _ (by decide)]; exact x186) (win17 wf _ _) i2 (cB.fr (mk 1 (by decide) (by decide)) (mk 9 (by decide) (by decide))) r2⟩
            · rw [if_neg (fun z => hz (g0.mp z))] at rE
              have r2 := rB.emp1 i.N a64 Be kn u4 k0 m1 m2 m6 mk
              exact ⟨nI k, _, _, J1, uE, rE, fin1 fin zf h.2.2.2.1 (by rw [o17 _ _ _ (by decide)]; exact x186) (win17 wf _ _) i2 (cB.sub (fun f hf q => by
                rw [m1] at q
                by_cases z : f = a'
                · rw [z]; exact Be
                · rw [if_neg z] at q; exact q) (mk 9 (by decide) (by decide) (by decide) (by decide))) r2⟩
          · exact absurd bad cc
        · rw [if_neg few, if_neg few, if_neg few, if_neg (show ¬ (0 : Int32) ≤ -1 by decide)] at uE
          obtain ⟨Z, Y1, l', g1, g2, g3, g4, l12, pth, x158, z15, zf, fin⟩ := rest (rfz (pt (pt X 1 (vw 6 I 1)) 17 V1) 3) (fun y q q2 => o17r _ _ _ _ (by omega) q2)
          obtain ⟨D', G', c', y, t', w1, w2, w5⟩ := plain Z l' pth l12 zf.2.1 zf.2.2.1 zf.1
          rcases w5 with ⟨y1, b', cb, qb, _⟩ | ⟨_, bad⟩
          · have bb : c' = nI a' := by rw [cb, ← qb, qa]
            subst y1 bb
            have rE := ref1 _ _ _ _ _ _ _ g1 g2 g4 z15 w1 w2
            rw [if_neg few] at rE
            exact ⟨-1, _, _, J1, uE, rE, fin1r (k := 3) fin zf h.2.2.2.1 (by decide) (r17 x186 _ _ 3) (win17r wf _ _ 3) (w2.2.1.T (show T + 10000 ≤ T + 10001 by omega) h30) w2.2.2.1 w2.1⟩
          · exact absurd bad cc
      · rw [if_pos bad, if_pos bad, if_pos bad, if_neg (show ¬ (0 : Int32) ≤ -1 by decide)] at uE
        obtain ⟨Z, Y1, l', g1, g2, g3, g4, l12, pth, x158, z15, zf, fin⟩ := rest (rfz (pt (pt X 1 (vw 6 I 1)) 17 V1) 3) (fun y q q2 => o17r _ _ _ _ (by omega) q2)
        obtain ⟨D', G', c', y, t', w1, w2, w5⟩ := plain Z l' pth l12 zf.2.1 zf.2.2.1 zf.1
        have yz : y = 0 := by
          rcases w5 with ⟨_, b', _, _, _, cc, _⟩ | ⟨z, _⟩
          · exact absurd bad cc
          · exact z
        subst yz
        refine ⟨-1, _, rfR (rF Z D' G' c') 3, J1, uE, ?_, fin1r (k := 3) fin zf h.2.2.2.1 (by decide) (r17 x186 _ _ 3) (win17r wf _ _ 3) (w2.2.1.T (show T + 10000 ≤ T + 10001 by omega) h30) w2.2.2.1 w2.1⟩
        rw [E_X10_remove]
        simp only [rl.kt, if_true, g1, Option.bind_some, asI_I, if_neg i10, rl.fz, if_neg (td.t13 g2), g4, asV_n, rl.f14, rl.fi, z15, w1, w_refuses rl _ (show (3 : Int32) = nI 3 from rfl) (by decide)]
    · refine absurd hy ?_
      unfold rowO
      rw [if_pos (by rw [u.2.2.1.2.1]; exact Int32.le_refl _)]
      exact (by decide : ¬ (-1 : Int32) = 1)
  · exact Pair.path_no h h30 t1 t2 t3 hy (by decide) (u_remove_no h.1.1 I T4 t1.2.1 hy) Rfs.remove
end
section
/-! A volume mounted: what holds stays. -/
theorem Inv.mnt {U : NodV} {V : MemV} {H : OneV} {W : WkV} {n vol t T : Nat} {x : Nat → Nat} (i : Inv U V H W n vol t T x) {o k u : Nat} (ha : At V o) (h4 : V 4 o = nI k) (kn : k < n) (hu : U 1 k = nI u) (u3 : u < 3) : ¬ V 9 u = -1 := by
  have hN := i.N
  have hM := i.M
  have n60 := hN.n60
  obtain ⟨d, hd⟩ := hN.rk
  have key : ∀ N, ∀ o k, d k ≤ N → At V o → V 4 o = nI k → k < n → U 1 k = nI u → ¬ V 9 u = -1 := by
    intro N
    induction N with
    | zero =>
      intro o k hd0 ha h4 kn hu
      by_cases z : V 2 o = -1
      · obtain ⟨w, w3, w9⟩ := hM.ro o ha.1 ha.2.1 z
        rcases hM.rt w w3 with ⟨q, _⟩ | ⟨wv, r, r64, q2, _, _, q5⟩
        · rw [q] at w9
          exact absurd w9.symm (nI_m1 (by have := ha.1; omega))
        · have ro : r = o := (nI_eq (by omega) (by have := ha.1; omega)).mp (q2.symm.trans w9)
          obtain ⟨r', b1, b2, _, _, b5⟩ := hN.rts w wv
          rw [ro, h4, b2] at q5
          have : k = r' := (nI_eq (by omega) (by omega)).mp q5
          rw [this, b5] at hu
          have : w = u := (nI_eq (by omega) (by omega)).mp hu
          rw [← this, w9]
          exact nI_m1 (by have := ha.1; omega)
      · obtain ⟨p, p1, p2, p3, p4, p5⟩ := hM.ch o ha.1 ha.2.1 z
        obtain ⟨kp, c1, c2, c3⟩ := hN.fo p4
        rcases hN.fd (V 4 p) (V 3 o) with ⟨q, _⟩ | ⟨j, j1, j2, j3, j4, _⟩
        · rw [← p5, h4] at q
          exact absurd q (nI_m1 (by omega))
        · have jk : j = k := (nI_eq (by omega) (by omega)).mp (j2.symm.trans (p5.symm.trans h4))
          rw [jk] at j3 j4
          have := hd k kp kn c1 j3 (by rw [j4, c2])
          omega
    | succ N ih =>
      intro o k hd0 ha h4 kn hu
      by_cases z : V 2 o = -1
      · obtain ⟨w, w3, w9⟩ := hM.ro o ha.1 ha.2.1 z
        rcases hM.rt w w3 with ⟨q, _⟩ | ⟨wv, r, r64, q2, _, _, q5⟩
        · rw [q] at w9
          exact absurd w9.symm (nI_m1 (by have := ha.1; omega))
        · have ro : r = o := (nI_eq (by omega) (by have := ha.1; omega)).mp (q2.symm.trans w9)
          obtain ⟨r', b1, b2, _, _, b5⟩ := hN.rts w wv
          rw [ro, h4, b2] at q5
          have : k = r' := (nI_eq (by omega) (by omega)).mp q5
          rw [this, b5] at hu
          have : w = u := (nI_eq (by omega) (by omega)).mp hu
          rw [← this, w9]
          exact nI_m1 (by have := ha.1; omega)
      · obtain ⟨p, p1, p2, p3, p4, p5⟩ := hM.ch o ha.1 ha.2.1 z
        obtain ⟨kp, c1, c2, c3⟩ := hN.fo p4
        rcases hN.fd (V 4 p) (V 3 o) with ⟨q, _⟩ | ⟨j, j1, j2, j3, j4, _⟩
        · rw [← p5, h4] at q
          exact absurd q (nI_m1 (by omega))
        · have jk : j = k := (nI_eq (by omega) (by omega)).mp (j2.symm.trans (p5.symm.trans h4))
          rw [jk] at j3 j4
          have dl := hd k kp kn c1 j3 (by rw [j4, c2])
          obtain ⟨p', b1, b2, b3, b4⟩ := hN.par k kn j3 (by rw [j4, c2]; exact nI_m1 (by omega))
          have : p' = kp := (nI_eq (by omega) (by omega)).mp (b2.symm.trans (j4.trans c2))
          rw [this] at b4
          exact ih p kp (by omega) ⟨p1, p3, by rw [c2]; exact nI_m1 (by omega)⟩ c2 c1 (by rw [b4]; exact hu)
  exact key (d k) o k (Nat.le_refl _) ha h4 kn hu
theorem Inv.mount {U : NodV} {V V' : MemV} {H : OneV} {W : WkV} {n vol t T : Nat} (i : Inv U V H W n vol t T (fun _ => 0)) (h30 : T + 1 ≤ 1000000000) (tT : t + 1 ≤ T) {v a e : Nat} (v3 : v < 3) (vv : v < vol) (m9 : V 9 v = -1) (at' : At V a) (v2 : ¬ V 2 a = -1) (vc : ∀ w, w < 3 → ¬ V 10 w = nI a) (fo : ¬ q_X2_isFolder U (V 4 a) = 0) (e64 : e < 64) (e0 : V 1 e = 0) (a1 : ∀ j, V' 1 j = if j = e then 1 else V 1 j) (a2 : ∀ j, V' 2 j = if j = e then -1 else V 2 j) (a3 : ∀ j, V' 3 j = if j = e then 0 else V 3 j) (a4 : ∀ j, V' 4 j = if j = e then U 5 v else V 4 j) (a5 : ∀ j, V' 5 j = if j = e then 0 else if j = a then V 5 a + 1 else V 5 j) (a6 : ∀ j, V' 6 j = if j = e then 0 else if j = a then V 6 a + 1 else V 6 j) (a8 : ∀ j, V' 8 j = if j = e then V 0 12 else V 8 j) (a9 : ∀ j, V' 9 j = if j = v then nI e else V 9 j) (a10 : ∀ j, V' 10 j = if j = v then nI a else V 10 j) (b11 : V' 0 11 = V 0 11) (b12 : V' 0 12 = V 0 12 + 1) (b14 : V' 0 14 = V 0 14) : Inv U V' H W n vol (t + 1) (T + 1) (fun _ => 0) := by
  have hN := i.N
  have hM := i.M
  have n60 := hN.n60
  have T30 := i.Z.T30
  have a64 := at'.1
  have av : ¬ V 1 a = 0 := by rw [at'.2.1]; exact i10
  have ne1 : ∀ {f}, ¬ V 1 f = 0 → f ≠ e := fun q z => q (by rw [z]; exact e0)
  have ne1' : ∀ {f}, V 1 f = 1 → f ≠ e := fun q => ne1 (by rw [q]; exact i10)
  have ae := ne1 av
  have v0 : v ≠ 0 := fun z => by
    obtain ⟨r, r1, r2⟩ := hM.r0
    rw [z, r2] at m9
    exact nI_m1 (by omega) m9
  have m10 : V 10 v = -1 := by
    rcases hM.rt v v3 with ⟨_, q⟩ | ⟨_, r, r64, q2, _⟩
    · exact q
    · rw [m9] at q2
      exact absurd q2.symm (nI_m1 (by omega))
  obtain ⟨rn, rn1, rn2, rn3, rn4, rn5⟩ := hN.rts v vv
  have nor : ∀ g, g < 64 → ¬ V 1 g = 0 → ¬ V 4 g = U 5 v := fun g hg q z => by
    rw [rn2] at z
    rcases hM.st g hg with s | s | s
    · exact q s
    · exact i.mnt ⟨hg, s, by rw [z]; exact nI_m1 (by omega)⟩ z rn1 rn5 v3 m9
    · obtain ⟨_, k, b1, b2, b3⟩ := hM.go g hg s
      have : k = rn := (nI_eq (by omega) (by omega)).mp (b2.symm.trans z)
      rw [this, rn3] at b3
      exact absurd b3 (by decide)
  have back : ∀ {f}, ¬ V' 1 f = 0 → f = e ∨ (f ≠ e ∧ ¬ V 1 f = 0) := fun {f} q => by
    by_cases z : f = e
    · exact Or.inl z
    · rw [a1, if_neg z] at q; exact Or.inr ⟨z, q⟩
  have fwd : ∀ {f}, ¬ V 1 f = 0 → V' 1 f = V 1 f ∧ V' 2 f = V 2 f ∧ V' 3 f = V 3 f ∧ V' 4 f = V 4 f ∧ V' 8 f = V 8 f := fun {f} q => by
    have z := ne1 q
    rw [a1, a2, a3, a4, a8, if_neg z, if_neg z, if_neg z, if_neg z, if_neg z]
    exact ⟨rfl, rfl, rfl, rfl, rfl⟩
  have b1 : ∀ {f}, V' 1 f = 1 → ¬ V' 2 f = -1 → f ≠ e ∧ V 1 f = 1 ∧ ¬ V 2 f = -1 := fun {f} q1 q2 => by
    by_cases z : f = e
    · rw [a2, if_pos z] at q2; exact absurd rfl q2
    · rw [a1, if_neg z] at q1
      rw [a2, if_neg z] at q2
      exact ⟨z, q1, q2⟩
  refine ⟨hN, ⟨?_, ?_, ?_, ?_, ?_, ?_, ?_, ?_, ?_, ?_, ?_, ?_⟩, ⟨?_, by omega, h30, ?_, ?_, ?_⟩, ?_, ?_, ?_⟩
  · intro f hf
    rw [a1]
    by_cases z : f = e
    · rw [if_pos z]; exact Or.inr (Or.inl rfl)
    · rw [if_neg z]; exact hM.st f hf
  · rw [a9, if_neg (fun z => v0 z.symm)]; exact hM.r0
  · rw [a10, if_neg (fun z => v0 z.symm)]; exact hM.o0
  · intro w hw
    rw [a9, a10]
    by_cases z : w = v
    · rw [if_pos z, if_pos z]
      exact Or.inr ⟨by rw [z]; exact vv, e, e64, rfl, by rw [a1, if_pos rfl], by rw [a2, if_pos rfl], by rw [a4, if_pos rfl, z]⟩
    · rw [if_neg z, if_neg z]
      rcases hM.rt w hw with q | ⟨q1, r, r64, q2, q3, q4, q5⟩
      · exact Or.inl q
      · obtain ⟨c1, c2, _, c4, _⟩ := fwd (f := r) (by rw [q3]; exact i10)
        exact Or.inr ⟨q1, r, r64, q2, by rw [c1]; exact q3, by rw [c2]; exact q4, by rw [c4]; exact q5⟩
  · intro w h1 hw
    rw [a9, a10]
    by_cases z : w = v
    · rw [if_pos z, if_pos z]
      intro _
      obtain ⟨c1, c2, _, c4, _⟩ := fwd av
      exact ⟨a, a64, rfl, by rw [c1]; exact at'.2.1, by rw [c2]; exact v2, by rw [c4]; exact fo⟩
    · rw [if_neg z, if_neg z]
      intro q
      obtain ⟨o, o64, w1, w2, w3, w4⟩ := hM.ov w h1 hw q
      obtain ⟨c1, c2, _, c4, _⟩ := fwd (f := o) (by rw [w2]; exact i10)
      exact ⟨o, o64, w1, by rw [c1]; exact w2, by rw [c2]; exact w3, by rw [c4]; exact w4⟩
  · intro w u hw hu q1 q2
    rw [a10] at q1
    rw [a10, a10] at q2
    by_cases z : w = v
    · by_cases y : u = v
      · omega
      · rw [if_pos z, if_neg y] at q2
        exact absurd q2.symm (vc u hu)
    · rw [if_neg z] at q1 q2
      by_cases y : u = v
      · rw [if_pos y] at q2
        exact absurd q2 (vc w hw)
      · rw [if_neg y] at q2
        exact hM.oi w u hw hu q1 q2
  · obtain ⟨ρ, hρ⟩ := hM.vr
    refine ⟨fun w => if w = v then ρ 0 + ρ 1 + ρ 2 + 1 else ρ w, fun w o k u h1 h2 h3 h4 h5 h6 h7 h8 => ?_⟩
    show (if u = v then ρ 0 + ρ 1 + ρ 2 + 1 else ρ u) < if w = v then ρ 0 + ρ 1 + ρ 2 + 1 else ρ w
    rw [a10] at h4
    by_cases z : w = v
    · rw [if_pos z] at h4
      have oa : o = a := ((nI_eq (by omega) (by omega)).mp h4).symm
      rw [oa, (fwd av).2.2.2.1] at h5
      have uv : u ≠ v := fun y => i.mnt at' h5 h6 h7 h8 (by rw [y]; exact m9)
      rw [if_neg uv, if_pos z]
      have : u = 0 ∨ u = 1 ∨ u = 2 := by omega
      rcases this with y | y | y <;> rw [y] <;> omega
    · rw [if_neg z] at h4
      have ok := hM.ok h2 h3 h4
      rw [(fwd (f := o) (by rw [ok.2.2.1]; exact i10)).2.2.2.1] at h5
      have uv : u ≠ v := fun y => i.mnt ⟨h3, ok.2.2.1, by rw [h5]; exact nI_m1 (by omega)⟩ h5 h6 h7 h8 (by rw [y]; exact m9)
      rw [if_neg uv, if_neg z]
      exact hρ w o k u h1 h2 h3 h4 h5 h6 h7 h8
  · intro f hf q1 q2
    by_cases z : f = e
    · exact ⟨v, v3, by rw [a9, if_pos rfl, z]⟩
    · rw [a1, if_neg z] at q1
      rw [a2, if_neg z] at q2
      obtain ⟨w, w1, w2⟩ := hM.ro f hf q1 q2
      refine ⟨w, w1, ?_⟩
      rw [a9, if_neg]
      · exact w2
      · intro y
        rw [y, m9] at w2
        exact nI_m1 (show f < 2 ^ 31 by omega) w2.symm
  · intro f hf q1 q2
    obtain ⟨z, y1, y2⟩ := b1 q1 q2
    obtain ⟨p, p1, p2, p3, p4, p5⟩ := hM.ch f hf y1 y2
    obtain ⟨c1, c2, c3, c4, _⟩ := fwd (f := p) (by rw [p3]; exact i10)
    obtain ⟨_, d2, d3, d4, _⟩ := fwd (f := f) (by rw [y1]; exact i10)
    exact ⟨p, p1, by rw [d2]; exact p2, by rw [c1]; exact p3, by rw [c4]; exact p4, by rw [c4, d3, d4]; exact p5⟩
  · intro f hf q1
    have z : f ≠ e := fun z => by rw [a1, if_pos z] at q1; exact absurd q1 (by decide)
    rw [a1, if_neg z] at q1
    rw [a2, a4, if_neg z, if_neg z]
    exact hM.go f hf q1
  · intro f g hf hg q1 q2 q3 q4 q5
    obtain ⟨z, y1, y2⟩ := b1 q1 q3
    obtain ⟨w, x1, x2⟩ := b1 q2 (by rw [← q4]; exact q3)
    rw [a2, a2, if_neg z, if_neg w] at q4
    rw [a3, a3, if_neg z, if_neg w] at q5
    exact hM.sb f g hf hg y1 x1 y2 q4 q5
  · intro f g hf hg q1 q2 q3 q4
    rw [a4] at q3
    rw [a4, a4] at q4
    rcases back q1 with z | ⟨z, y⟩
    · rcases back q2 with w | ⟨w, x⟩
      · omega
      · rw [if_pos z, if_neg w] at q4
        exact absurd q4.symm (nor g hg x)
    · rw [if_neg z] at q3 q4
      rcases back q2 with w | ⟨w, x⟩
      · rw [if_pos w] at q4
        exact absurd q4 (nor f hf y)
      · rw [if_neg w] at q4
        exact hM.nd f g hf hg y x q3 q4
  · rw [b12, i.Z.tk, nI_1]
  · intro f hf q1
    rw [a8]
    rcases back q1 with z | ⟨z, y⟩
    · rw [if_pos z, i.Z.tk]
      exact ⟨t, rfl, by omega⟩
    · rw [if_neg z]
      obtain ⟨b, c1, c2⟩ := i.Z.bi f hf y
      exact ⟨b, c1, by omega⟩
  · intro f hf q1
    rw [a6]
    rcases back q1 with z | ⟨z, y⟩
    · rw [if_pos z]
      exact ⟨0, rfl, by omega⟩
    · rw [if_neg z]
      obtain ⟨c, d1, d2⟩ := i.Z.co f hf y
      by_cases w : f = a
      · rw [if_pos w, ← w, d1]
        exact ⟨c + 1, nI_1 c, by omega⟩
      · rw [if_neg w]
        exact ⟨c, d1, by omega⟩
  · exact ⟨by rw [b11]; exact i.Z.li, i.Z.tri.one b14 e64 (fun k q => by rw [a1, if_neg q])⟩
  · have hcc : ∀ f, f < 64 → hc V' H W f = hc V H W f + (if f = a then 1 else 0) := by
      intro f hf
      have c1 : hcC V' f = hcC V f := cnt_cong (fun j _ _ => by
        rw [a1, a2]
        by_cases w : j = e
        · have q : ¬ (-1 : Int32) = nI f := fun z => nI_m1 (show f < 2 ^ 31 by omega) z.symm
          rw [w, if_pos rfl, if_pos rfl, e0]
          simp [q]
        · rw [if_neg w, if_neg w])
      have o := cnt_one (P := fun w => decide (V 10 w = nI f)) (P' := fun w => decide (V' 10 w = nI f)) (e := v) (n := 3) (k := 0) (Nat.zero_le _) (by omega) (fun j _ _ z => by
        show decide _ = decide _
        rw [a10, if_neg z])
      have x1 : decide (V 10 v = nI f) = false := by
        rw [m10]
        simp only [decide_eq_false_iff_not]
        exact fun z => nI_m1 (show f < 2 ^ 31 by omega) z.symm
      have x2 : decide (V' 10 v = nI f) = decide (f = a) := by
        rw [a10, if_pos rfl]
        by_cases z : f = a
        · rw [z]; simp
        · have : ¬ nI a = nI f := fun w => z ((nI_eq (by omega) (by omega)).mp w).symm
          simp [z, this]
      simp only [x1, x2, decide_eq_true_eq, Bool.false_eq_true, if_false] at o
      have o' : hcV V' f = hcV V f + (if f = a then 1 else 0) := by unfold hcV; omega
      unfold hc
      omega
    intro f hf
    obtain ⟨l1, l2, l3⟩ := i.L f hf
    have cc := hcc f hf
    refine ⟨fun _ => rfl, l2, fun q => ?_⟩
    simp only [Nat.add_zero] at l3 ⊢
    rw [a5, a1]
    rcases back q with z | ⟨z, y⟩
    · have fa : f ≠ a := fun w => ae (by rw [← w, z])
      rw [if_neg fa, i.un hf (by rw [z]; exact e0)] at cc
      rw [if_pos z, if_pos z, cc]
      exact ⟨rfl, fun w => absurd w (by decide)⟩
    · obtain ⟨m1, m2⟩ := l3 y
      rw [if_neg z, if_neg z]
      by_cases w : f = a
      · rw [if_pos w] at cc
        rw [if_pos w, ← w, m1, cc]
        exact ⟨nI_1 _, fun _ => by omega⟩
      · rw [if_neg w, Nat.add_zero] at cc
        rw [if_neg w, cc]
        exact ⟨m1, m2⟩
  · intro j hj
    rcases i.H j hj with z | ⟨f, f64, w1, w2, w3⟩
    · exact Or.inl z
    · obtain ⟨c1, _, _, c4, _⟩ := fwd w2
      exact Or.inr ⟨f, f64, w1, by rw [c1]; exact w2, by rw [c4]; exact w3⟩
  · intro j hj q
    obtain ⟨m, d, l, r, hr, hw⟩ := i.W j hj q
    refine ⟨m, d, l, r, hr, hw.m, hw.d, hw.l, hw.r, hw.m1, hw.md, hw.dl, hw.l12, hw.r3, fun b hb => ?_⟩
    obtain ⟨f, f64, g1, ⟨b1', c1', g2, g3, g4, g5, g6⟩, g7⟩ := (hw.wy b hb).ex
    refine ⟨f, f64, g1, ⟨b1', c1', g2, by omega, g4, by omega, ?_⟩, ?_⟩
    · intro q1 q2
      rcases back q1 with z | ⟨z, y⟩
      · rw [a8, if_pos z, i.Z.tk, g2] at q2
        have : t = b1' := (nI_eq (by omega) (by omega)).mp q2
        omega
      · rw [a8, if_neg z] at q2
        obtain ⟨c2', x1, x2, x3, x4⟩ := g6 y q2
        rw [a6, a1, a4, if_neg z, if_neg z, if_neg z]
        by_cases w : f = a
        · rw [if_pos w, ← w, x1]
          exact ⟨c2' + 1, nI_1 c2', by omega, by omega, fun w => by omega⟩
        · rw [if_neg w]
          exact ⟨c2', x1, x2, by omega, x4⟩
    · intro q1
      have y := g7 q1
      obtain ⟨c1, _, _, c4, _⟩ := fwd y.1
      exact ⟨by rw [c1]; exact y.1, by rw [c4]; exact y.2⟩
end
section
/-! A volume mounted, on both sides. -/
/-- what the class's cover does, row by row -/
theorem cover_rows {U : NodV} {V : MemV} {v a e : Nat} (v3 : v < 3) (a64 : a < 64) (a0 : ¬ V 1 a = 0) (lu : f_X1_leastUnused V = some e) {r : Int32} (hr : q_X2_rootOf U (nI v) = r) : q_X1_cover U V (nI a) (nI v) = nI e ∧ (∀ j, gV_X1_cover U V (nI a) (nI v) 1 j = if j = e then 1 else V 1 j) ∧ (∀ j, gV_X1_cover U V (nI a) (nI v) 2 j = if j = e then -1 else V 2 j) ∧ (∀ j, gV_X1_cover U V (nI a) (nI v) 3 j = if j = e then 0 else V 3 j) ∧ (∀ j, gV_X1_cover U V (nI a) (nI v) 4 j = if j = e then r else V 4 j) ∧ (∀ j, gV_X1_cover U V (nI a) (nI v) 5 j = if j = e then 0 else if j = a then V 5 a + 1 else V 5 j) ∧ (∀ j, gV_X1_cover U V (nI a) (nI v) 6 j = if j = e then 0 else if j = a then V 6 a + 1 else V 6 j) ∧ (∀ j, gV_X1_cover U V (nI a) (nI v) 7 j = if j = e then V 0 12 else V 7 j) ∧ (∀ j, gV_X1_cover U V (nI a) (nI v) 8 j = if j = e then V 0 12 else V 8 j) ∧ (∀ j, gV_X1_cover U V (nI a) (nI v) 9 j = if j = v then nI e else V 9 j) ∧ (∀ j, gV_X1_cover U V (nI a) (nI v) 10 j = if j = v then nI a else V 10 j) ∧ gV_X1_cover U V (nI a) (nI v) 0 11 = V 0 11 ∧ gV_X1_cover U V (nI a) (nI v) 0 12 = V 0 12 + 1 ∧ gV_X1_cover U V (nI a) (nI v) 0 13 = V 0 13 ∧ gV_X1_cover U V (nI a) (nI v) 0 14 = V 0 14 := by
  have c0 : ∀ q : Fin 12, q ≠ 5 → q ≠ 6 → q ≠ 10 → gV_X1_hold (uv (uv V 10 v (nI a)) 6 a (V 6 a + 1)) (nI a) q = V q := fun q h5 h6 h10 => by
    rw [ho_k _ _ _ h5, uv_k _ _ _ _ _ h6, uv_k _ _ _ _ _ h10]
  have lu' : f_X1_leastUnused (gV_X1_hold (uv (uv V 10 v (nI a)) 6 a (V 6 a + 1)) (nI a)) = some e := by
    rw [← lu]
    unfold f_X1_leastUnused
    rw [c0 1 (by decide) (by decide) (by decide)]
  have ex : q_X1_cover U V (nI a) (nI v) = nI e ∧ gV_X1_cover U V (nI a) (nI v) = uv (gV_X1_add (gV_X1_hold (uv (uv V 10 v (nI a)) 6 a (V 6 a + 1)) (nI a)) (-1) 0 r) 9 v (nI e) := by
    unfold q_X1_cover gV_X1_cover
    rw [Inv.isE a64 a0, if_neg i10, if_neg i10, if_neg (nI_pos (show v < 2 ^ 31 by omega)), if_neg (nI_pos (show v < 2 ^ 31 by omega)), if_pos (show nI v < 3 from nI_lt (b := 3) v3 (by decide)), if_pos (show nI v < 3 from nI_lt (b := 3) v3 (by decide)), ix_nI (by omega), ix_nI (by omega), hr, ad_q lu']
    exact ⟨rfl, rfl⟩
  rw [ex.2]
  have k9 : ∀ (A : MemV) (q : Fin 12), q ≠ 9 → uv A 9 v (nI e) q = A q := fun A q hq => uv_k _ _ _ _ _ hq
  refine ⟨ex.1, fun j => ?_, fun j => ?_, fun j => ?_, fun j => ?_, fun j => ?_, fun j => ?_, fun j => ?_, fun j => ?_, fun j => ?_, fun j => ?_, ?_, ?_, ?_, ?_⟩
  · rw [k9 _ _ (by decide), ad_1 lu', c0 1 (by decide) (by decide) (by decide)]
  · rw [k9 _ _ (by decide), ad_2 lu', c0 2 (by decide) (by decide) (by decide)]
  · rw [k9 _ _ (by decide), ad_3 lu', c0 3 (by decide) (by decide) (by decide)]
  · rw [k9 _ _ (by decide), ad_4 lu', c0 4 (by decide) (by decide) (by decide)]
  · rw [k9 _ _ (by decide), ad_5r lu', ho_5 _ a64, uv_k _ _ _ _ _ (by decide), uv_k _ _ _ _ _ (by decide)]
  · rw [k9 _ _ (by decide), ad_6 lu', ho_k _ _ _ (by decide)]
    by_cases z : j = a
    · rw [z, uv_s, if_pos rfl]
    · rw [uv_n _ _ _ _ _ _ (fun w => z w.2), uv_k _ _ _ _ _ (by decide), if_neg z]
  · rw [k9 _ _ (by decide), ad_7 lu', c0 7 (by decide) (by decide) (by decide), c0 0 (by decide) (by decide) (by decide)]
  · rw [k9 _ _ (by decide), ad_8 lu', c0 8 (by decide) (by decide) (by decide), c0 0 (by decide) (by decide) (by decide)]
  · by_cases z : j = v
    · rw [z, uv_s, if_pos rfl]
    · rw [uv_n _ _ _ _ _ _ (fun w => z w.2), ad_k lu' _ _ _ 9 (Or.inl rfl), c0 9 (by decide) (by decide) (by decide), if_neg z]
  · rw [k9 _ _ (by decide), ad_k lu' _ _ _ 10 (Or.inr rfl), ho_k _ _ _ (by decide), uv_k _ _ _ _ _ (by decide)]
    by_cases z : j = v
    · rw [z, uv_s, if_pos rfl]
    · rw [uv_n _ _ _ _ _ _ (fun w => z w.2), if_neg z]
  · rw [k9 _ _ (by decide), ad_0 lu' _ _ _ _ (by decide) (by decide), c0 0 (by decide) (by decide) (by decide)]
  · rw [k9 _ _ (by decide), ad_t lu', c0 0 (by decide) (by decide) (by decide)]
  · rw [k9 _ _ (by decide), ad_0 lu' _ _ _ _ (by decide) (by decide), c0 0 (by decide) (by decide) (by decide)]
  · rw [k9 _ _ (by decide), ad_0 lu' _ _ _ _ (by decide) (by decide), c0 0 (by decide) (by decide) (by decide)]
def moD (D : RowV) (v a e : Nat) (r : Int32) : RowV := sD (sD (cmD (mkD (sD (sD D (701 + 9 * a + 7) (nI v)) (701 + 9 * a + 4) (D (701 + 9 * a + 4) + 1)) e (-1) 0 r) e) (5 + v) (nI e)) (8 + v) (nI a)
theorem moD_o (D : RowV) {v a e : Nat} (r : Int32) {j : Nat} (h0 : j ≠ 0) (he : j < 701 + 9 * e ∨ 701 + 9 * e + 9 ≤ j) (h5 : j ≠ 5 + v) (h8 : j ≠ 8 + v) (h7 : j ≠ 701 + 9 * a + 7) (h4 : j ≠ 701 + 9 * a + 4) : moD D v a e r j = D j := by
  unfold moD
  rw [sD_n _ _ h8, sD_n _ _ h5, cmD_o _ h0 (by omega), mkD_o _ _ _ _ he, sD_n _ _ h4, sD_n _ _ h7]
theorem moD_at (D : RowV) {v a e : Nat} (v3 : v < 3) (ae : a ≠ e) (r : Int32) : moD D v a e r 0 = D 0 + 1 ∧ moD D v a e r (5 + v) = nI e ∧ moD D v a e r (8 + v) = nI a ∧ moD D v a e r (701 + 9 * a + 7) = nI v ∧ moD D v a e r (701 + 9 * a + 4) = D (701 + 9 * a + 4) + 1 ∧ moD D v a e r (701 + 9 * e + 0) = 1 ∧ moD D v a e r (701 + 9 * e + 1) = -1 ∧ moD D v a e r (701 + 9 * e + 2) = 0 ∧ moD D v a e r (701 + 9 * e + 3) = r ∧ moD D v a e r (701 + 9 * e + 4) = 0 ∧ moD D v a e r (701 + 9 * e + 5) = D 0 ∧ moD D v a e r (701 + 9 * e + 6) = D 0 ∧ moD D v a e r (701 + 9 * e + 7) = -1 ∧ moD D v a e r (701 + 9 * e + 8) = 0 := by
  unfold moD
  obtain ⟨k0, k1, k2, k3, k4, k6, k7, k8⟩ := mkD_at (sD (sD D (701 + 9 * a + 7) (nI v)) (701 + 9 * a + 4) (D (701 + 9 * a + 4) + 1)) e (-1) 0 r
  have d0 : sD (sD D (701 + 9 * a + 7) (nI v)) (701 + 9 * a + 4) (D (701 + 9 * a + 4) + 1) 0 = D 0 := by rw [sD_n _ _ (by omega), sD_n _ _ (by omega)]
  have m0 : mkD (sD (sD D (701 + 9 * a + 7) (nI v)) (701 + 9 * a + 4) (D (701 + 9 * a + 4) + 1)) e (-1) 0 r 0 = D 0 := by rw [mkD_o _ _ _ _ (by omega), d0]
  refine ⟨?_, ?_, sD_s _ _ _, ?_, ?_, ?_, ?_, ?_, ?_, ?_, ?_, ?_, ?_, ?_⟩
  · rw [sD_n _ _ (by omega), sD_n _ _ (by omega), cmD_0, m0]
  · rw [sD_n _ _ (by omega), sD_s]
  · rw [sD_n _ _ (by omega), sD_n _ _ (by omega), cmD_o _ (by omega) (by omega), mkD_o _ _ _ _ (by omega), sD_n _ _ (by omega), sD_s]
  · rw [sD_n _ _ (by omega), sD_n _ _ (by omega), cmD_o _ (by omega) (by omega), mkD_o _ _ _ _ (by omega), sD_s]
  · rw [sD_n _ _ (by omega), sD_n _ _ (by omega), cmD_o _ (by omega) (by omega), k0]
  · rw [sD_n _ _ (by omega), sD_n _ _ (by omega), cmD_o _ (by omega) (by omega), k1]
  · rw [sD_n _ _ (by omega), sD_n _ _ (by omega), cmD_o _ (by omega) (by omega), k2]
  · rw [sD_n _ _ (by omega), sD_n _ _ (by omega), cmD_o _ (by omega) (by omega), k3]
  · rw [sD_n _ _ (by omega), sD_n _ _ (by omega), cmD_o _ (by omega) (by omega), k4]
  · rw [sD_n _ _ (by omega), sD_n _ _ (by omega), cmD_5, m0]
  · rw [sD_n _ _ (by omega), sD_n _ _ (by omega), cmD_o _ (by omega) (by omega), k6, d0]
  · rw [sD_n _ _ (by omega), sD_n _ _ (by omega), cmD_o _ (by omega) (by omega), k7]
  · rw [sD_n _ _ (by omega), sD_n _ _ (by omega), cmD_o _ (by omega) (by omega), k8]
theorem Rel.mount {U : NodV} {V V' : MemV} {H : OneV} {W : WkV} {D : RowV} {n vol t T : Nat} (r : Rel none U V H W D n) (i : Inv U V H W n vol t T (fun _ => 0)) {v a e : Nat} (v3 : v < 3) (m10 : V 10 v = -1) (a64 : a < 64) (a0 : ¬ V 1 a = 0) (vc : ∀ w, w < 3 → ¬ V 10 w = nI a) (e64 : e < 64) (e0 : V 1 e = 0) {rn : Int32} (a1 : ∀ j, V' 1 j = if j = e then 1 else V 1 j) (a2 : ∀ j, V' 2 j = if j = e then -1 else V 2 j) (a3 : ∀ j, V' 3 j = if j = e then 0 else V 3 j) (a4 : ∀ j, V' 4 j = if j = e then rn else V 4 j) (a6 : ∀ j, V' 6 j = if j = e then 0 else if j = a then V 6 a + 1 else V 6 j) (a7 : ∀ j, V' 7 j = if j = e then V 0 12 else V 7 j) (a8 : ∀ j, V' 8 j = if j = e then V 0 12 else V 8 j) (a9 : ∀ j, V' 9 j = if j = v then nI e else V 9 j) (a10 : ∀ j, V' 10 j = if j = v then nI a else V 10 j) (b11 : V' 0 11 = V 0 11) (b12 : V' 0 12 = V 0 12 + 1) (b13 : V' 0 13 = V 0 13) (b14 : V' 0 14 = V 0 14) : Rel none U V' H W (moD D v a e rn) n := by
  have n60 := i.N.n60
  have ae : a ≠ e := fun z => a0 (by rw [z]; exact e0)
  obtain ⟨d0, d5, d8, da7, da4, x0, x1, x2, x3, x4, x5, x6, x7, x8⟩ := moD_at D (e := e) v3 ae rn
  have o := fun {j} h0 he h5 h8 h7 h4 => moD_o D (v := v) (a := a) (e := e) rn (j := j) h0 he h5 h8 h7 h4
  generalize moD D v a e rn = D2 at d0 d5 d8 da7 da4 x0 x1 x2 x3 x4 x5 x6 x7 x8 o ⊢
  have b := r.B
  have cvn : ∀ f, f < 64 → f ≠ a → q_X1_coveringVolume V' (nI f) = q_X1_coveringVolume V (nI f) := fun f hf z => by
    have : f_X1_coveringVolume V' (nI f) = f_X1_coveringVolume V (nI f) := by
      unfold f_X1_coveringVolume
      refine fst_cong (fun w _ hw => ?_)
      rw [a10]
      by_cases y : w = v
      · have q1 : ¬ nI a = nI f := fun q => z ((nI_eq (by omega) (by omega)).mp q).symm
        have q2 : ¬ (-1 : Int32) = nI f := fun q => nI_m1 (show f < 2 ^ 31 by omega) q.symm
        rw [if_pos y, y, m10, if_neg q1, if_neg q2]
      · rw [if_neg y]
    show oI (f_X1_coveringVolume V' (nI f)) = oI (f_X1_coveringVolume V (nI f))
    rw [this]
  have cva : q_X1_coveringVolume V' (nI a) = nI v := by
    have : f_X1_coveringVolume V' (nI a) = some v := by
      unfold f_X1_coveringVolume
      refine fst_is (Nat.zero_le _) (by omega) ?_ (fun w _ hw => ?_)
      · rw [if_neg (nI_m1 (by omega)), a10, if_pos rfl, if_pos rfl]
      · rw [if_neg (nI_m1 (by omega)), a10, if_neg (show ¬ w = v by omega), if_neg (vc w (by omega))]
    show oI (f_X1_coveringVolume V' (nI a)) = nI v
    rw [this]
    rfl
  have cve : q_X1_coveringVolume V (nI e) = -1 := (cv_m e64).mpr (fun w hw q => by
    have := (i.M.ok hw e64 q).2.2.1
    rw [e0] at this
    exact absurd this (by decide))
  refine r.fr ⟨?_, ?_, ?_, ?_, ?_, ?_, ?_, ?_, ?_, ?_, ?_⟩ (fun j h1 h2 => o (by omega) (by omega) (by omega) (by omega) (by omega) (by omega)) (fun k z => by cases z)
  · rw [d0, b12, b.tk]
  · rw [o (by omega) (by omega) (by omega) (by omega) (by omega) (by omega), b13]; exact b.lo
  · rw [o (by omega) (by omega) (by omega) (by omega) (by omega) (by omega), b14]; exact b.tr
  · rw [o (by omega) (by omega) (by omega) (by omega) (by omega) (by omega), b11]; exact b.rm
  · rw [o (by omega) (by omega) (by omega) (by omega) (by omega) (by omega)]; exact b.ev
  · intro w hw
    rw [a9]
    by_cases z : w = v
    · rw [if_pos z, z, d5]
    · rw [if_neg z, o (by omega) (by omega) (by omega) (by omega) (by omega) (by omega)]; exact b.rt w hw
  · intro w hw
    rw [a10]
    by_cases z : w = v
    · rw [if_pos z, z, d8]
    · rw [if_neg z, o (by omega) (by omega) (by omega) (by omega) (by omega) (by omega)]; exact b.ov w hw
  · intro j hj
    rw [o (by omega) (by omega) (by omega) (by omega) (by omega) (by omega)]; exact b.ha j hj
  · intro j hj
    rw [o (by omega) (by omega) (by omega) (by omega) (by omega) (by omega), o (by omega) (by omega) (by omega) (by omega) (by omega) (by omega), o (by omega) (by omega) (by omega) (by omega) (by omega) (by omega), o (by omega) (by omega) (by omega) (by omega) (by omega) (by omega), o (by omega) (by omega) (by omega) (by omega) (by omega) (by omega)]
    exact b.nd j hj
  · intro f hf
    rw [a1]
    by_cases z : f = e
    · subst z
      rw [x0, if_pos rfl, if_pos ⟨e64, i10⟩]
    · rw [if_neg z, o (by omega) (by omega) (by omega) (by omega) (by omega) (by omega)]
      exact b.th f hf
  · intro f hf q
    rw [a1, a2, a3, a4, a6, a7, a8]
    by_cases z : f = e
    · subst z
      rw [x1, x2, x3, x4, x5, x6, x7, x8, if_pos rfl, if_pos rfl, if_pos rfl, if_pos rfl, if_pos rfl, if_pos rfl, if_pos rfl, cvn f hf (fun w => ae w.symm), cve, b.tk, if_neg i12]
      exact ⟨rfl, Or.inr ⟨rfl, rfl⟩, rfl, rfl, rfl, rfl, rfl, rfl⟩
    · rw [a1, if_neg z] at q
      have en := b.en f hf q
      rw [if_neg z, if_neg z, if_neg z, if_neg z, if_neg z, if_neg z, if_neg z, o (j := 701 + 9 * f + 1) (by omega) (by omega) (by omega) (by omega) (by omega) (by omega), o (j := 701 + 9 * f + 2) (by omega) (by omega) (by omega) (by omega) (by omega) (by omega), o (j := 701 + 9 * f + 3) (by omega) (by omega) (by omega) (by omega) (by omega) (by omega), o (j := 701 + 9 * f + 5) (by omega) (by omega) (by omega) (by omega) (by omega) (by omega), o (j := 701 + 9 * f + 6) (by omega) (by omega) (by omega) (by omega) (by omega) (by omega), o (j := 701 + 9 * f + 8) (by omega) (by omega) (by omega) (by omega) (by omega) (by omega)]
      by_cases w : f = a
      · subst w
        rw [da7, da4, if_pos rfl, cva, en.2.2.2.1]
        exact ⟨en.1, en.2.1, en.2.2.1, rfl, en.2.2.2.2.1, en.2.2.2.2.2.1, rfl, en.2.2.2.2.2.2.2⟩
      · rw [if_neg w, cvn f hf w, o (j := 701 + 9 * f + 4) (by omega) (by omega) (by omega) (by omega) (by omega) (by omega), o (j := 701 + 9 * f + 7) (by omega) (by omega) (by omega) (by omega) (by omega) (by omega)]
        exact en
end
section
/-! A volume mounted, on both sides: the act. -/
theorem w_mount_end {J : MJ} (h : RefL J) (I : MI) (D G : RowV) (c : Int32) (hw : I 188 21 = -1) {U : NodV} {n vol : Nat} (hN : NodI U n vol) (nd : ∀ k, k < n → D (401 + 5 * k + 0) = U 1 k ∧ D (401 + 5 * k + 2) = U 2 k) {v rn e a : Nat} (v3 : v < 3) (rn1 : rn < n) (rn2 : U 5 v = nI rn) (rn4 : U 2 rn = -1) (rn5 : U 1 rn = nI v) (lu : fst? (fun e => !thQ D e) 0 128 = some e) (e64 : e < 64) : Ev T_X10_mount 102 [some (mR (some 188)), some (mI (nI v)), some (mI (nI a)), some (mI 0), none] [] (rF I D G c, J) = some (some (mI (nI e)), (rF I (sD (sD (cmD (mkD D e (-1) 0 (nI rn)) e) (5 + v) (nI e)) (8 + v) (nI a)) G c, J)) := by
  have n60 := hN.n60
  have go : ∀ j, j ≤ rn → Ev T_X10_mount 102 [some (mR (some 188)), some (mI (nI v)), some (mI (nI a)), some (mI 0), none] [] (rF I D G c, J) = Ev T_X10_mount 102 [some (mR (some 188)), some (mI (nI v)), some (mI (nI a)), some (mI (nI j)), none] [] (rF I D G c, J) := by
    intro j
    induction j with
    | zero => intro _; rfl
    | succ j ih =>
      intro hj
      obtain ⟨q0, q2⟩ := nd j (by omega)
      rw [ih (by omega), E_X10_mount_102]
      simp only [h.kt, if_true, w_nodeHas h _ 2 (show (2 : Int32) = nI 2 from rfl) (show j < 60 by omega) (by decide), w_nodeHas h _ 0 (show (0 : Int32) = nI 0 from rfl) (show j < 60 by omega) (by decide), Option.bind_some, asI_I, rF_D, q0, q2, nI_1]
      by_cases z : U 2 j = -1
      · rw [if_pos z, if_neg]
        intro y
        obtain ⟨w, w1, w2, w3⟩ := hN.rt j (by omega) z
        have vol3 := hN.v3
        have : w = v := (nI_eq (by omega) (by omega)).mp (w2.symm.trans y)
        rw [this, rn2] at w3
        have : rn = j := (nI_eq (by omega) (by omega)).mp w3
        omega
      · rw [if_neg z]
  obtain ⟨q0, q2⟩ := nd rn rn1
  have wc := w_come h I (mkD D e (-1) 0 (nI rn)) G c (wk := none) (m := 0) hw (fun k z => by cases z) (e := e) (by omega)
  have mk := w_makes h (rF I D G c) (-1) 0 (nI rn) (e := e) (by rw [rF_D]; exact lu) (by rw [mk0_rF]; exact wc)
  have e5 : (5 : Int32) + nI v = nI (5 + v) := nI_add 5 v
  have e8 : (8 : Int32) + nI v = nI (8 + v) := nI_add 8 v
  rw [go rn (Nat.le_refl _), E_X10_mount_102]
  simp only [h.kt, if_true, w_nodeHas h _ 2 (show (2 : Int32) = nI 2 from rfl) (show rn < 60 by omega) (by decide), w_nodeHas h _ 0 (show (0 : Int32) = nI 0 from rfl) (show rn < 60 by omega) (by decide), Option.bind_some, asI_I, rF_D, q0, q2, rn4, rn5, mk, h.f18, h.stD _ _ e5 (show 5 + v < 1853 by omega), h.stD _ _ e8 (show 8 + v < 1853 by omega), rF_sD]
  rfl
theorem Rfs.mount (x : Int32) : ∀ (J : MJ) (X X1 : MI) (y : Int32), RefL J → M_X10_isPath [mR (some 188)] (X, J) = some (some (mI y), (X1, J)) → (y = 0 ∨ bz (X1 188 13) = 0) → M_X10_mount [mR (some 188), mI x] (X, J) = some (some (mI (-1)), (rfR X1 3, J)) := by
  intro J X X1 y h hp hc
  rw [E_X10_mount]
  by_cases z : y = 0
  · simp only [h.kt, if_true, hp, Option.bind_some, asI_I, if_pos z, w_refuses h _ (show (3 : Int32) = nI 3 from rfl) (by decide)]
  · have z2 : bz (X1 188 13) = 0 := hc.resolve_left z
    have iv : M_X10_isVolume [mR (some 188), mI x] (X1, J) = some (some (mI 0), (X1, J)) := by
      rw [E_X10_isVolume]
      simp only [h.fz, Option.bind_some, if_pos z2]
      simp
    simp only [h.kt, if_true, hp, Option.bind_some, asI_I, if_neg z, iv, w_refuses h _ (show (3 : Int32) = nI 3 from rfl) (by decide)]
theorem w_isVolume {J : MJ} (h : RefL J) (Y : MI) (t13 : ¬ bz (Y 188 13) = 0) {vol : Nat} (hv : Y 188 11 = nI vol) (v1 : 1 ≤ vol) (v3 : vol ≤ 3) {U : NodV} (hU : U 0 6 = nI vol) (x : Int32) : M_X10_isVolume [mR (some 188), mI x] (Y, J) = some (some (mI (q_X2_hasVolume U x)), (Y, J)) := by
  rw [E_X10_isVolume]
  simp only [h.fz, Option.bind_some, if_neg t13, h.fi, hv, w_isIn x 0 (nI vol - 1) _ (show (0 : Int64) = Int32.toInt64 0 from rfl) rfl, asI_I]
  unfold q_X2_hasVolume
  rw [hU]
  by_cases a : x < 0
  · rw [if_pos a, if_pos a]
    simp
  · have xn : x = nI (ix x) := nI_ix a
    have xl := ix_lt x
    rw [if_neg a, if_neg a, show nI vol - 1 = nI (vol - 1) from nI_sub (b := 1) v1]
    by_cases b : ix x < vol
    · have b1 : ¬ nI (vol - 1) < x := by rw [xn]; exact nI_nlt (by omega) (by omega)
      have b2 : ¬ (3 : Int32) ≤ x := by rw [xn]; exact nI_ge (b := 3) (by omega) (by decide)
      have b3 : ¬ nI vol ≤ x := by rw [xn]; exact nI_ge b (by omega)
      rw [if_neg b1, if_neg b2, if_neg b3]
      simp
    · have b1 : nI (vol - 1) < x := by rw [xn]; exact nI_lt (by omega) (by omega)
      have b3 : nI vol ≤ x := by
        rw [xn]
        exact Int32.not_lt.mp (nI_nlt (by omega) (by omega))
      rw [if_pos b1, if_pos b3, ite_self]
      simp
end
section
/-! A volume mounted: the pair. -/
theorem Rfs.mount' (x : Int32) : Rfs (M_X10_mount [mR (some 188), mI x]) 3 := by
  intro J X X1 y h hp hc
  exact Rfs.mount x J X X1 y h hp (hc.imp id (fun z => z.2))
theorem P_mount {I : MI} {J : MJ} {T B0 : Nat} (h : St I J T B0) (h30 : T + 10001 ≤ 1000000000) (x : Int32) : Pair I J T B0 (M_X9_mount [mR (some 0), mI x]) (M_X10_mount [mR (some 188), mI x]) := by
  obtain ⟨n, t1, t2, t3⟩ := h.2.1
  have T4 := t1.1
  have w1' : vw 6 (tkn I n) 1 = vw 6 I 1 := vw_fr (fun x _ _ => tkn_o I n (by omega) (by omega))
  have w17' : vw 12 (tkn I n) 17 = vw 12 I 17 := vw_fr (fun x _ _ => tkn_o I n (by omega) (by omega))
  by_cases hy : (rowO I n).1 = 1
  · rcases h.2.2.2.2.2.2.2.2.2 with td | u
    · obtain ⟨vol, nn, t, X, J1, hv, i, c, r, k1, kl, rl, wf, x186, rest⟩ := act_pre (n := n) h h30 td t1 t2 t3 hy
      have e1 := wf.1
      have e2 := wf.2.1
      have n60 := i.N.n60
      have vol3 := i.N.v3
      by_cases hvol : q_X2_hasVolume (vw 6 I 1) x = 0
      · refine Pair.path_full h h30 td t1 t2 t3 hy (k := 3) (by decide) (u_mount_vol h.1.1 I T4 t1.2.1 x hy (by rw [w1']; exact hvol)) (fun Y Y1 y1 y2 y3 => ?_)
        have iv := w_isVolume h.1.2 Y1 (td.t13 y3) (by rw [y3 11 (by decide) (by decide) (by decide) (by decide)]; exact hv) vol3.1 vol3.2 i.N.vs x
        rw [E_X10_mount]
        simp only [h.1.2.kt, if_true, y1, Option.bind_some, asI_I, if_neg i10, iv, if_pos hvol, w_refuses h.1.2 _ (show (3 : Int32) = nI 3 from rfl) (by decide)]
      · have x0 : ¬ x < 0 := fun z => hvol (by unfold q_X2_hasVolume; rw [if_pos z])
        have xn : x = nI (ix x) := nI_ix x0
        have xl := ix_lt x
        generalize ix x = v at xn xl
        subst xn
        have v3 : v < 3 := by
          rcases Nat.lt_or_ge v 3 with z | z
          · exact z
          · refine absurd ?_ hvol
            unfold q_X2_hasVolume
            rw [if_neg x0, if_pos (show (3 : Int32) ≤ nI v from Int32.not_lt.mp (nI_nlt (b := 3) z (by omega)))]
        have vv : v < vol := by
          rcases Nat.lt_or_ge v vol with z | z
          · exact z
          · refine absurd ?_ hvol
            unfold q_X2_hasVolume
            rw [if_neg x0, i.N.vs, if_pos (show nI vol ≤ nI v from Int32.not_lt.mp (nI_nlt z (by omega))), ite_self]
        have mq : q_X1_isMounted (vw 12 I 17) (nI v) = if vw 12 I 17 9 v = -1 then 0 else 1 := by
          unfold q_X1_isMounted
          rw [if_neg x0, if_neg (show ¬ (3 : Int32) ≤ nI v from nI_ge (b := 3) v3 (by decide)), ix_nI (by omega)]
        have e5 : (5 : Int32) + nI v = nI (5 + v) := nI_add 5 v
        by_cases m9 : vw 12 I 17 9 v = -1
        · have uE := u_mount h.1.1 I T4 t1.2.1 (nI v) hy (by rw [w1']; exact hvol) (by rw [w17', mq, if_pos m9]) k1 kl
          unfold q_X8_mountAt gV_X8_mountAt at uE
          have px : X = pt X 1 (vw 6 I 1) := by rw [← e1]; exact (pt_vw X 1).symm
          rw [e1, e2] at uE
          have ip := i.T (show T ≤ T + 10000 by omega) (by omega)
          have tT := i.Z.tT
          have plain : ∀ (Z : MI) (l' : Nat), Pth (vw 2 X 158) (Z 192) l' → l' ≤ 12 → Z 188 20 = -1 → Z 188 21 = -1 → Z 194 = I 194 → ∃ D' G' c' y t', M_X10_isPlain [mR (some 188), mR (some 192), mI (nI l')] (Z, J1) = some (some (mI y), (rF Z D' G' c', J1)) ∧ Stq none (vw 6 I 1) (vw 12 I 17) (gV_X1_walk 12 (vw 2 X 158) (vw 6 I 1) (vw 12 I 17) (vw 2 X 158 0 1)) (vw 1 I 29) (wks I 31) D' nn vol t' (T + 10000) 0 (fun _ => 0) ∧ t' ≤ t + 25 ∧ Pla (gV_X1_walk 12 (vw 2 X 158) (vw 6 I 1) (vw 12 I 17) (vw 2 X 158 0 1)) (q_X1_walk 12 (vw 2 X 158) (vw 6 I 1) (vw 12 I 17) (vw 2 X 158 0 1)) y c' := by
            intro Z l' pth l12 z20 z21 zD
            obtain ⟨D', G', c', y, t', w1, w2, w3, w4, w5⟩ := r.isPlain ip c (fun e _ z => absurd rfl z) rl Z (by rw [z20]; exact Or.inl ⟨rfl, fun _ => rfl⟩) z21 (Z 195) (Z 188 22) rl.s14 (by decide) (L := 12) pth l12 (by decide) (by omega) (by omega)
            rw [← zD, rF_id] at w1
            exact ⟨D', G', c', y, t', w1, w2, by omega, w5⟩
          generalize q_X1_walk 12 (vw 2 X 158) (vw 6 I 1) (vw 12 I 17) (vw 2 X 158 0 1) = Q at uE plain
          generalize gV_X1_walk 12 (vw 2 X 158) (vw 6 I 1) (vw 12 I 17) (vw 2 X 158 0 1) = V1 at uE plain
          obtain ⟨Z0, Y0, l0, _, _, _, _, b0, p0, _, _, f0, _⟩ := rest X (fun _ _ _ => rfl)
          obtain ⟨D0, G0, c0, y0, t0, _, s0, tl0, w0⟩ := plain Z0 l0 p0 b0 f0.2.1 f0.2.2.1 f0.1
          have pre : ∀ (I1 Y1 : MI) (Z : MI) (l' : Nat) (y : Int32) (D' G' : RowV) (c' : Int32), M_X10_isPath [mR (some 188)] (I1, J1) = some (some (mI 1), (Y1, J1)) → (∀ k, k ≠ 1 → k ≠ 2 → k ≠ 3 → k ≠ 15 → Y1 188 k = I 188 k) → Y1 194 = I 194 → M_X10_isVolume [mR (some 188), mI (nI v)] (Y1, J1) = some (some (mI (q_X2_hasVolume (vw 6 I 1) (nI v))), (Y1, J1)) ∧ Y1 194 (5 + v) = -1 := by
            intro I1 Y1 Z l' y D' G' c' g1 g2 g3
            refine ⟨w_isVolume rl Y1 (td.t13 g2) (by rw [g2 11 (by decide) (by decide) (by decide) (by decide)]; exact hv) vol3.1 vol3.2 i.N.vs (nI v), ?_⟩
            rw [g3, r.B.rt v v3]
            exact m9
          have nogo : ∀ (V2 : MemV), M_X9_mount [mR (some 0), mI (nI v)] (I, J) = some (some (mI (-1)), (rfz (pt X 17 V2) 3, J1)) → (V2 = V1) → (∀ (Z : MI) (D' G' : RowV) (c' y : Int32) (t' : Nat), Stq none (vw 6 I 1) (vw 12 I 17) V1 (vw 1 I 29) (wks I 31) D' nn vol t' (T + 10000) 0 (fun _ => 0) → Pla V1 Q y c' → y = 0 ∨ M_X10_isFolder [mR (some 188), mI c'] (rF Z D' G' c', J1) = some (some (mI 0), (rF Z D' G' c', J1))) → Pair I J T B0 (M_X9_mount [mR (some 0), mI (nI v)]) (M_X10_mount [mR (some 188), mI (nI v)]) := by
            intro V2 uE2 hV no
            subst hV
            rw [px] at uE2
            obtain ⟨Z, Y1, l', g1, g2, g3, g4, l12, pth, x158, z15, zf, fin⟩ := rest (rfz (pt (pt X 1 (vw 6 I 1)) 17 V2) 3) (fun y q q2 => o17r _ _ _ _ (by omega) q2)
            obtain ⟨D', G', c', y, t', w1, w2, _, w5⟩ := plain Z l' pth l12 zf.2.1 zf.2.2.1 zf.1
            obtain ⟨iv, m5⟩ := pre _ Y1 Z l' y D' G' c' g1 g2 g3
            refine ⟨-1, _, rfR (rF Z D' G' c') 3, J1, uE2, ?_, fin1r (k := 3) fin zf h.2.2.2.1 (by decide) (r17 x186 _ _ 3) (win17r wf _ _ 3) (w2.2.1.T (show T + 10000 ≤ T + 10001 by omega) h30) w2.2.2.1 w2.1⟩
            rw [E_X10_mount]
            simp only [rl.kt, if_true, g1, Option.bind_some, asI_I, if_neg i10, iv, if_neg hvol, rl.f18, rl.ldD _ e5 (show 5 + v < 1853 by omega), m5, g4, asV_n, rl.f14, rl.fi, z15, w1, rF_c, w_refuses rl _ (show (3 : Int32) = nI 3 from rfl) (by decide)]
            rcases no Z D' G' c' y t' w2 w5 with z | z
            · rw [if_pos z]
            · by_cases y0 : y = 0
              · rw [if_pos y0]
              · rw [if_neg y0]
                simp only [z, Option.bind_some, asI_I, if_true, rl.kt, w_refuses rl _ (show (3 : Int32) = nI 3 from rfl) (by decide)]
          rcases w0 with ⟨_, a', _, qa, at', cc, v2, vc⟩ | ⟨y00, bad⟩
          · have a64 := at'.1
            have a0 : ¬ V1 1 a' = 0 := by rw [at'.2.1]; exact i10
            rw [if_neg cc, if_neg cc] at uE
            by_cases fo : q_X1_isFolder (vw 6 I 1) V1 Q = 0
            · rw [if_pos fo, if_pos fo, if_neg (show ¬ (0 : Int32) ≤ -1 by decide)] at uE
              refine nogo V1 uE rfl (fun Z D' G' c' y t' st pl => ?_)
              rcases pl with ⟨_, b', cb, qb, atb, _⟩ | ⟨z, _⟩
              · refine Or.inr ?_
                rw [cb, st.1.isFolder i.N st.2.1.M rl Z G' (nI b') atb, ← qb, fo]
              · exact Or.inl z
            · rw [if_neg fo, if_neg fo, qa] at uE
              have fo4 : ¬ q_X2_isFolder (vw 6 I 1) (V1 4 a') = 0 := fun z => fo (by rw [qa, isF_q a64 a0, if_pos z])
              have m9' : V1 9 v = -1 := by rw [s0.2.2.2.2.1]; exact m9
              have ncl : nc V1 ≤ 63 := by
                have C := s0.2.2.1
                have v0 : v ≠ 0 := fun z => by
                  obtain ⟨r0, r1, r2⟩ := s0.2.1.M.r0
                  rw [z, r2] at m9'
                  exact nI_m1 (by omega) m9'
                have le := cnt_le (fun w => decide (¬ V1 9 w = -1)) 2 1
                have C' : nc V1 ≤ 61 + cnt (fun w => decide (¬ V1 9 w = -1)) 1 2 := C
                omega
              obtain ⟨e, lu⟩ := lu_ex ncl
              obtain ⟨e64, e0, _⟩ := lu_some lu
              obtain ⟨rn, rn1, rn2, rn3, rn4, rn5⟩ := i.N.rts v vv
              have hr : q_X2_rootOf (vw 6 I 1) (nI v) = vw 6 I 1 5 v := by
                unfold q_X2_rootOf
                rw [if_neg hvol, ix_nI (by omega)]
              obtain ⟨cq, a1, a2, a3, a4, a5, a6, a7, a8, a9, a10, b11, b12, b13, b14⟩ := cover_rows v3 a64 a0 lu hr
              have m10 : V1 10 v = -1 := by
                rcases s0.2.1.M.rt v v3 with ⟨_, q⟩ | ⟨_, r0, r64, q2, _⟩
                · exact q
                · rw [m9'] at q2
                  exact absurd q2.symm (nI_m1 (by omega))
              have i2 := s0.2.1.mount (by omega) (by omega) v3 vv m9' at' v2 vc fo4 e64 e0 a1 a2 a3 a4 a5 a6 a8 a9 a10 b11 b12 b14
              rw [cq, if_pos (nI_pos' (show e < 2 ^ 31 by omega)), px] at uE
              generalize gV_X1_cover (vw 6 I 1) V1 (nI a') (nI v) = V3 at uE a1 a2 a3 a4 a5 a6 a7 a8 a9 a10 b11 b12 b13 b14 i2
              obtain ⟨Z, Y1, l', g1, g2, g3, g4, l12, pth, x158, z15, zf, fin⟩ := rest (pt (pt X 1 (vw 6 I 1)) 17 V3) (fun y q _ => o17 _ _ _ (by omega))
              obtain ⟨D', G', c', y, t', w1, w2, _, w5⟩ := plain Z l' pth l12 zf.2.1 zf.2.2.1 zf.1
              obtain ⟨iv, m5⟩ := pre _ Y1 Z l' y D' G' c' g1 g2 g3
              rcases w5 with ⟨y1, b', cb, qb, _⟩ | ⟨_, bad⟩
              · have bb : c' = nI a' := by rw [cb, ← qb, qa]
                subst y1 bb
                have r2 := w2.1.mount w2.2.1 v3 m10 a64 a0 vc e64 e0 a1 a2 a3 a4 a6 a7 a8 a9 a10 b11 b12 b13 b14
                have isf := w2.1.isFolder i.N w2.2.1.M rl Z G' (nI a') at'
                have cI : CntI V3 := by
                  have C : cnt (fun k => decide (¬ V1 1 k = 0)) 0 64 ≤ 61 + cnt (fun w => decide (¬ V1 9 w = -1)) 1 2 := s0.2.2.1
                  have v0 : v ≠ 0 := fun z => by
                    obtain ⟨r0, q1, q2⟩ := s0.2.1.M.r0
                    rw [z, q2] at m9'
                    exact nI_m1 (by omega) m9'
                  have o1 := cnt_one (P := fun k => decide (¬ V1 1 k = 0)) (P' := fun k => decide (¬ V3 1 k = 0)) (e := e) (n := 64) (k := 0) (Nat.zero_le _) (by omega) (fun j _ _ z => by
                    show decide _ = decide _
                    rw [a1, if_neg z])
                  have o2 := cnt_one (P := fun w => decide (¬ V1 9 w = -1)) (P' := fun w => decide (¬ V3 9 w = -1)) (e := v) (n := 2) (k := 1) (by omega) (by omega) (fun j _ _ z => by
                    show decide _ = decide _
                    rw [a9, if_neg z])
                  have x1 : decide (¬ V1 1 e = 0) = false := by rw [e0]; simp
                  have x2 : decide (¬ V3 1 e = 0) = true := by rw [a1, if_pos rfl]; simp
                  have x3 : decide (¬ V1 9 v = -1) = false := by rw [m9']; simp
                  have x4 : decide (¬ V3 9 v = -1) = true := by
                    rw [a9, if_pos rfl]
                    simp only [decide_eq_true_eq]
                    exact nI_m1 (by omega)
                  simp only [x1, x2, if_true, Bool.false_eq_true, if_false] at o1
                  simp only [x3, x4, if_true, Bool.false_eq_true, if_false] at o2
                  unfold CntI
                  omega
                refine ⟨nI e, _, rF Z (moD D' v a' e (vw 6 I 1 5 v)) G' (nI a'), J1, uE, ?_, fin1 fin zf h.2.2.2.1 (by rw [o17 _ _ _ (by decide)]; exact x186) (win17 wf _ _) i2 cI r2⟩
                have ld4 : sD D' (701 + 9 * a' + 7) (nI v) (701 + 9 * a' + 4) = D' (701 + 9 * a' + 4) := sD_n _ _ (by omega)
                have nlu : fst? (fun e => !thQ (sD (sD D' (701 + 9 * a' + 7) (nI v)) (701 + 9 * a' + 4) (D' (701 + 9 * a' + 4) + 1)) e) 0 128 = some e := by
                  rw [← w2.1.B.lu lu]
                  refine fst_cong (fun k _ hk => ?_)
                  unfold thQ
                  rw [sD_n _ _ (by omega), sD_n _ _ (by omega)]
                have en := w_mount_end rl Z (sD (sD D' (701 + 9 * a' + 7) (nI v)) (701 + 9 * a' + 4) (D' (701 + 9 * a' + 4) + 1)) G' (nI a') zf.2.2.1 i.N (fun k hk => by
                  have q := w2.1.B.nd k hk
                  rw [sD_n _ _ (by omega), sD_n _ _ (by omega), sD_n _ _ (by omega), sD_n _ _ (by omega)]
                  exact ⟨q.1, q.2.1⟩) (a := a') v3 rn1 rn2 rn4 rn5 nlu e64
                rw [← rn2] at en
                rw [qa] at fo
                rw [E_X10_mount]
                simp only [rl.kt, if_true, g1, Option.bind_some, asI_I, if_neg i10, iv, if_neg hvol, rl.f18, rl.ldD _ e5 (show 5 + v < 1853 by omega), m5, g4, asV_n, rl.f14, rl.fi, z15, w1, rF_c, isf, if_neg fo, w_entryAt _ a' 7 (show (7 : Int32) = nI 7 from rfl), w_entryAt _ a' 4 (show (4 : Int32) = nI 4 from rfl), rl.stD _ _ (show nI (701 + 9 * a' + 7) = nI (701 + 9 * a' + 7) from rfl) (show 701 + 9 * a' + 7 < 1853 by omega), rF_sD, rl.ldD _ (show nI (701 + 9 * a' + 4) = nI (701 + 9 * a' + 4) from rfl) (show 701 + 9 * a' + 4 < 1853 by omega), rl.stD _ _ (show nI (701 + 9 * a' + 4) = nI (701 + 9 * a' + 4) from rfl) (show 701 + 9 * a' + 4 < 1853 by omega), rF_D, ld4, en]
                rfl
              · exact absurd bad cc
          · rw [if_pos bad, if_pos bad, if_neg (show ¬ (0 : Int32) ≤ -1 by decide)] at uE
            refine nogo V1 uE rfl (fun Z D' G' c' y t' st pl => ?_)
            rcases pl with ⟨_, b', _, _, _, cc, _⟩ | ⟨z, _⟩
            · exact absurd bad cc
            · exact Or.inl z
        · refine Pair.path_full h h30 td t1 t2 t3 hy (k := 3) (by decide) (u_mount_is h.1.1 I T4 t1.2.1 (nI v) hy (by rw [w1']; exact hvol) (by rw [w17', mq, if_neg m9]; exact i10)) (fun Y Y1 y1 y2 y3 => ?_)
          have iv := w_isVolume h.1.2 Y1 (td.t13 y3) (by rw [y3 11 (by decide) (by decide) (by decide) (by decide)]; exact hv) vol3.1 vol3.2 i.N.vs (nI v)
          have m5 : ¬ Y1 194 (5 + v) = -1 := by rw [y2, r.B.rt v v3]; exact m9
          rw [E_X10_mount]
          simp only [h.1.2.kt, if_true, y1, Option.bind_some, asI_I, if_neg i10, iv, if_neg hvol, h.1.2.f18, h.1.2.ldD _ e5 (show 5 + v < 1853 by omega), if_neg m5, w_refuses h.1.2 _ (show (3 : Int32) = nI 3 from rfl) (by decide)]
    · refine absurd hy ?_
      unfold rowO
      rw [if_pos (by rw [u.2.2.1.2.1]; exact Int32.le_refl _)]
      exact (by decide : ¬ (-1 : Int32) = 1)
  · exact Pair.path_no h h30 t1 t2 t3 hy (by decide) (u_mount_no h.1.1 I T4 t1.2.1 x hy) (Rfs.mount' x)
end

/-! Something that may be changed, on both sides; what is below it is given up. -/
theorem rv_m {V : MemV} {a : Nat} (ha : a < 64) : q_X1_rootVolume V (nI a) = -1 ↔ ∀ v, v < 3 → ¬ V 9 v = nI a := by
  have na : ¬ nI a = -1 := nI_m1 (by omega)
  show oI (f_X1_rootVolume V (nI a)) = -1 ↔ _
  cases q : f_X1_rootVolume V (nI a) with
  | none =>
    refine ⟨fun _ v hv z => ?_, fun _ => rfl⟩
    have := fst_none q v (Nat.zero_le _) (by omega)
    rw [if_neg na, if_pos z] at this
    cases this
  | some v =>
    obtain ⟨_, v3, w, _⟩ := fst_some q
    rw [if_neg na] at w
    constructor
    · intro z
      exact absurd z (nI_m1 (show v < 2 ^ 31 by omega))
    · intro z
      rw [if_neg (z v (by omega))] at w
      cases w
theorem cv_m {V : MemV} {a : Nat} (ha : a < 64) : q_X1_coveringVolume V (nI a) = -1 ↔ ∀ v, v < 3 → ¬ V 10 v = nI a := by
  have na : ¬ nI a = -1 := nI_m1 (by omega)
  show oI (f_X1_coveringVolume V (nI a)) = -1 ↔ _
  cases q : f_X1_coveringVolume V (nI a) with
  | none =>
    refine ⟨fun _ v hv z => ?_, fun _ => rfl⟩
    have := fst_none q v (Nat.zero_le _) (by omega)
    rw [if_neg na, if_pos z] at this
    cases this
  | some v =>
    obtain ⟨_, v3, w, _⟩ := fst_some q
    rw [if_neg na] at w
    constructor
    · intro z
      exact absurd z (nI_m1 (show v < 2 ^ 31 by omega))
    · intro z
      rw [if_neg (z v (by omega))] at w
      cases w
/-- how something is found that may be changed -/
def Pla (V1 : MemV) (Q y c' : Int32) : Prop := (y = 1 ∧ ∃ a', c' = nI a' ∧ Q = nI a' ∧ At V1 a' ∧ ¬ q_X1_canChange V1 Q = 0 ∧ ¬ V1 2 a' = -1 ∧ ∀ v, v < 3 → ¬ V1 10 v = nI a') ∨ (y = 0 ∧ q_X1_canChange V1 Q = 0)
theorem Rel.isPlain {U : NodV} {V : MemV} {H : OneV} {W : WkV} {D : RowV} {n vol t T : Nat} {x : Nat → Nat} (r : Rel none U V H W D n) (i : Inv U V H W n vol t T x) (C : CntI V) (hx : ∀ e, e < 64 → ¬ x e = 0 → ¬ V 4 e = -1) {J : MJ} (h : RefL J) (I : MI) (hb : HB (I 188 20) x) (hw : I 188 21 = -1) (G : RowV) (c : Int32) {s1 : Nat} (hs1 : jS J s1 = (11, 64)) (hs : s1 ≠ 188 ∧ s1 ≠ 194 ∧ s1 ≠ 195) {L l : Nat} {P : RouV} (pth : Pth P (I s1) l) (hL : l ≤ L) (hLb : L < 1000) (l64 : l ≤ 64) (tT : t + 2 * l + 1 ≤ T) : ∃ D' G' c' y t', M_X10_isPlain [mR (some 188), mR (some s1), mI (nI l)] (rF I D G c, J) = some (some (mI y), (rF I D' G' c', J)) ∧ Stq none U V (gV_X1_walk L P U V (P 0 1)) H W D' n vol t' T 0 x ∧ t ≤ t' ∧ t' ≤ t + 2 * l + 1 ∧ Pla (gV_X1_walk L P U V (P 0 1)) (q_X1_walk L P U V (P 0 1)) y c' := by
  have m1 : ix (P 0 1) = l := by rw [pth.1, ix_nI (by omega)]
  obtain ⟨D', G', c', how, t', w1, w2, w3, w4, w5⟩ := r.walks i C hx h I hb hw G c hs1 hs (P := P) (lp := l) (m := l) (L := L) pth.1 (Nat.le_refl _) hL hLb l64 pth.2 (P 0 1) m1 tT
  generalize gV_X1_walk L P U V (P 0 1) = V1 at w2 w5
  generalize q_X1_walk L P U V (P 0 1) = Q at w5
  have bad : ∀ hw : Int32, (hw = -2 ∨ hw = -3) → how = hw → Q = hw → ∃ D' G' c' y t', M_X10_isPlain [mR (some 188), mR (some s1), mI (nI l)] (rF I D G c, J) = some (some (mI y), (rF I D' G' c', J)) ∧ Stq none U V V1 H W D' n vol t' T 0 x ∧ t ≤ t' ∧ t' ≤ t + 2 * l + 1 ∧ Pla V1 Q y c' := by
    intro hw hh e1 e2
    have q0 : Q < 0 := by rw [e2]; rcases hh with z | z <;> rw [z] <;> decide
    have h0 : ¬ how = 0 := by rw [e1]; rcases hh with z | z <;> rw [z] <;> decide
    refine ⟨D', G', c', 0, t', ?_, w2, w3, w4, Or.inr ⟨rfl, ?_⟩⟩
    · rw [E_X10_isPlain]
      simp only [h.kt, if_true, w1, Option.bind_some, asI_I, if_neg h0]
      simp
    · unfold q_X1_canChange q_X1_isEntry
      rw [if_pos q0, if_pos rfl]
  rcases w5 with ⟨a1, a', a2, a3, a4⟩ | ⟨a1, a2⟩ | ⟨a1, a2⟩
  · subst a1 a2 a3
    have a64 := a4.1
    have a0 : ¬ V1 1 a' = 0 := by rw [a4.2.1]; exact i10
    have en := w2.1.B.en a' a64 a0
    have cc : q_X1_canChange V1 (nI a') = if q_X1_rootVolume V1 (nI a') = -1 then (if q_X1_coveringVolume V1 (nI a') = -1 then 1 else 0) else 0 := by
      unfold q_X1_canChange
      rw [Inv.isE a64 a0, if_neg i10]
    have rq := w2.1.eqr (nI a')
    rw [E_X10_isPlain]
    simp only [h.kt, if_true, w1, Option.bind_some, asI_I, h.fi, rF_c, w_isRootB h, rF_D, w_its h _ 7 (show (7 : Int32) = nI 7 from rfl) (show a' < 128 by omega) (by decide), en.2.2.2.2.2.2.1]
    by_cases rt : rtB D' (nI a') = true
    · refine ⟨D', G', nI a', 0, t', ?_, w2, w3, w4, Or.inr ⟨rfl, ?_⟩⟩
      · rw [if_pos rt, if_neg i10]
        simp
      · rw [cc, if_neg]
        intro z
        obtain ⟨v, v3, q⟩ := rq.mp rt
        exact (rv_m a64).mp z v v3 q
    · have r1 : q_X1_rootVolume V1 (nI a') = -1 := (rv_m a64).mpr (fun v v3 q => rt (rq.mpr ⟨v, v3, q⟩))
      rw [if_neg rt, if_pos rfl]
      rw [r1, if_pos rfl] at cc
      by_cases cv : q_X1_coveringVolume V1 (nI a') = -1
      · refine ⟨D', G', nI a', 1, t', ?_, w2, w3, w4, Or.inl ⟨rfl, a', rfl, rfl, a4, by rw [cc, if_pos cv]; exact i10, fun z => ?_, (cv_m a64).mp cv⟩⟩
        · rw [if_pos cv]
          simp
        · obtain ⟨v, v3, q⟩ := w2.2.1.M.ro a' a64 a4.2.1 z
          exact (rv_m a64).mp r1 v v3 q
      · refine ⟨D', G', nI a', 0, t', ?_, w2, w3, w4, Or.inr ⟨rfl, by rw [cc, if_neg cv]⟩⟩
        rw [if_neg cv]
        simp
  · exact bad (-2) (Or.inl rfl) a1 a2
  · exact bad (-3) (Or.inr rfl) a1 a2
theorem drop_6 (V : MemV) (e f : Nat) (c : Int32) : gV_X1_drop (uv V 6 e c) (nI f) = uv (gV_X1_drop V (nI f)) 6 e c := by
  have c2 : uv V 6 e c 2 = V 2 := uv_k _ _ _ _ _ (by decide)
  have c5 : uv V 6 e c 5 = V 5 := uv_k _ _ _ _ _ (by decide)
  unfold gV_X1_drop
  rw [c2, c5]
  have sw : ∀ (A : MemV) (q : Fin 12) (j : Nat) (v : Int32), q ≠ 6 → uv (uv A 6 e c) q j v = uv (uv A q j v) 6 e c := by
    intro A q j v hq
    funext k i
    simp only [uv]
    by_cases z : k = q ∧ i = j
    · rw [if_pos z, if_neg (fun w => hq (by rw [← z.1, w.1])), if_pos z]
    · rw [if_neg z, if_neg z]
  rw [sw V 1 _ _ (by decide), sw _ 5 _ _ (by decide)]
  split
  · rfl
  · split
    · split
      · rfl
      · split
        · rfl
        · rfl
    · rfl
theorem empty_loop {U : NodV} {H : OneV} {W : WkV} {n vol t T e : Nat} (e64 : e < 64) {c : Int32} : ∀ (nn k : Nat) (V : MemV), k + nn = 64 → Inv U (uv V 6 e c) H W n vol t T (fun _ => 0) → (∀ f, f < 64 → ¬ V 1 f = 0 → V 2 f = nI e → V 4 f = -1) → (∀ f, f < k → ¬ V 1 f = 0 → ¬ V 2 f = nI e) → ∃ V2 : MemV, lp_X1_empty_21 (nI e) nn k V = (if V2 5 e = 0 then uv V2 4 e (-1) else gV_X1_release (uv (uv V2 1 e 2) 2 e (-1)) (V2 2 e)) ∧ Inv U (uv V2 6 e c) H W n vol t T (fun _ => 0) ∧ (∀ f, f < 64 → V2 1 f = if ¬ V 1 f = 0 ∧ V 2 f = nI e then 0 else V 1 f) ∧ ∀ q : Fin 12, q ≠ 1 → q ≠ 5 → V2 q = V q
  | 0, k, V, hk, hi, ha, hd => by
    refine ⟨V, ?_, hi, fun f hf => ?_, fun _ _ _ => rfl⟩
    · rw [show lp_X1_empty_21 (nI e) 0 k V = (if (V 5 (ix (nI e))) = 0 then (uv V 4 (ix (nI e)) ((-1))) else (gV_X1_release (uv (uv V 1 (ix (nI e)) 2) 2 (ix (nI e)) ((-1))) (V 2 (ix (nI e))))) from rfl, ix_nI (by omega)]
    · rw [if_neg (fun z => hd f (by omega) z.1 z.2)]
  | nn + 1, k, V, hk, hi, ha, hd => by
    have st : lp_X1_empty_21 (nI e) (nn + 1) k V = (if (V 1 k) = 0 then lp_X1_empty_21 (nI e) nn (k + 1) V else (if (V 2 k) = nI e then lp_X1_empty_21 (nI e) nn (k + 1) (gV_X1_drop V (nI k)) else lp_X1_empty_21 (nI e) nn (k + 1) V)) := rfl
    by_cases z : ¬ V 1 k = 0 ∧ V 2 k = nI e
    · rw [st, if_neg z.1, if_pos z.2]
      have c1 : uv V 6 e c 1 = V 1 := uv_k _ _ _ _ _ (by decide)
      have c2 : uv V 6 e c 2 = V 2 := uv_k _ _ _ _ _ (by decide)
      have c4 : uv V 6 e c 4 = V 4 := uv_k _ _ _ _ _ (by decide)
      have k64 : k < 64 := by omega
      have v4 : V 4 k = -1 := ha k k64 z.1 z.2
      have v1 : V 1 k = 1 := by
        rcases hi.M.st k k64 with q | q | q
        · rw [c1] at q; exact absurd q z.1
        · rw [c1] at q; exact q
        · have := (hi.M.go k k64 q).1
          rw [c2, z.2] at this
          exact absurd this (nI_m1 (by omega))
      have i2 := hi.drop k64 (by rw [c1]; exact v1) (by rw [c2, z.2]; exact nI_m1 (by omega)) (hi.ab k64 (by rw [c4]; exact v4)) rfl
      rw [drop_6] at i2
      have d1 := dr_1 V k64
      have dk := dr_k V (nI k)
      obtain ⟨V2, e1, e2, e3, e4⟩ := empty_loop e64 nn (k + 1) (gV_X1_drop V (nI k)) (by omega) i2 (fun f hf q1 q2 => by
        rw [dk 4 (by decide) (by decide)]
        rw [dk 2 (by decide) (by decide)] at q2
        rw [d1] at q1
        by_cases w : f = k
        · rw [if_pos w] at q1; exact absurd rfl q1
        · rw [if_neg w] at q1; exact ha f hf q1 q2) (fun f hf q1 => by
        rw [dk 2 (by decide) (by decide)]
        rw [d1] at q1
        by_cases w : f = k
        · rw [if_pos w] at q1; exact absurd rfl q1
        · rw [if_neg w] at q1; exact hd f (by omega) q1)
      refine ⟨V2, e1, e2, fun f hf => ?_, fun q q1 q5 => by rw [e4 q q1 q5, dk q q1 q5]⟩
      rw [e3 f hf, d1, dk 2 (by decide) (by decide)]
      by_cases w : f = k
      · rw [if_pos w, if_neg (fun q => q.1 rfl), w, if_pos z]
      · rw [if_neg w]
    · have : lp_X1_empty_21 (nI e) (nn + 1) k V = lp_X1_empty_21 (nI e) nn (k + 1) V := by
        rw [st]
        by_cases q : V 1 k = 0
        · rw [if_pos q]
        · rw [if_neg q, if_neg (fun w => z ⟨q, w⟩)]
      rw [this]
      exact empty_loop e64 nn (k + 1) V (by omega) hi ha (fun f hf q1 q2 => by
        by_cases w : f = k
        · exact z ⟨by rw [← w]; exact q1, by rw [← w]; exact q2⟩
        · exact hd f (by omega) q1 q2)

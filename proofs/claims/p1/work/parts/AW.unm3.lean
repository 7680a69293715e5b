/-! A volume unmounted: in use, on both sides; the reference's loops. -/
def OkC (x : Nat) : Prop := x ≠ 7 ∧ (x < 55 ∨ 67 ≤ x) ∧ (x < 70 ∨ 134 ≤ x) ∧ (x < 158 ∨ 183 ≤ x) ∧ x ≠ 183 ∧ x ≠ 184 ∧ x ≠ 186 ∧ x ≠ 188 ∧ x ≠ 190 ∧ x ≠ 192 ∧ x ≠ 193 ∧ x ≠ 194 ∧ x ≠ 195 ∧ x ≠ 196 ∧ x ≠ 198 ∧ x ≠ 200 ∧ x ≠ 204 ∧ x ≠ 205 ∧ x ≠ 206 ∧ x ≠ 207
def OkK (j : Nat) : Prop := j ≠ 1 ∧ j ≠ 2 ∧ j ≠ 3 ∧ j ≠ 15 ∧ j ≠ 17 ∧ j ≠ 22 ∧ j ≠ 38
/-- a call that changes nothing that is shown but what was fed, what was refused -/
theorem St.qq {I I' : MI} {J : MJ} {T B0 : Nat} (h : St I J T B0) (h30 : T + 10001 ≤ 1000000000) (s1 : S1 I') (s3 : S3 I') (o : ∀ x, OkC x → I' x = I x) (k : ∀ j, OkK j → I' 188 j = I 188 j) (d : ∀ j, j < 1853 → I' 194 j = I 194 j) : St I' J (T + 10001) B0 := by
  obtain ⟨L, s7⟩ := h.2.2.2.2.2.2.2.1
  have O : ∀ x, (x ≠ 7 ∧ (x < 55 ∨ 67 ≤ x) ∧ (x < 70 ∨ 134 ≤ x) ∧ (x < 158 ∨ 183 ≤ x) ∧ x ≠ 183 ∧ x ≠ 184 ∧ x ≠ 186 ∧ x ≠ 188 ∧ x ≠ 190 ∧ x ≠ 192 ∧ x ≠ 193 ∧ x ≠ 194 ∧ x ≠ 195 ∧ x ≠ 196 ∧ x ≠ 198 ∧ x ≠ 200 ∧ x ≠ 204 ∧ x ≠ 205 ∧ x ≠ 206 ∧ x ≠ 207) → I' x = I x := o
  have K : ∀ j, (j ≠ 1 ∧ j ≠ 2 ∧ j ≠ 3 ∧ j ≠ 15 ∧ j ≠ 17 ∧ j ≠ 22 ∧ j ≠ 38) → I' 188 j = I 188 j := k
  exact h.sm s1 (h.2.2.1.fr (O _ (by omega)) (K _ (by omega)) (K _ (by omega))) s3 (h.2.2.2.2.1.fr (by rw [O 0 (by omega)]) (O _ (by omega)) (K _ (by omega)) (O _ (by omega))) (h.2.2.2.2.2.1.fr (by rw [O 0 (by omega)]) (O _ (by omega)) (K _ (by omega)) (O _ (by omega))) ⟨L, s7.fr (by rw [O 69 (by omega)]) (by rw [O 69 (by omega)]) (fun x _ _ => O x (by omega)) (K _ (by omega)) (K _ (by omega)) (O _ (by omega)) (O _ (by omega))⟩ (h.2.2.2.2.2.2.2.2.1.fr (K _ (by omega)) (K _ (by omega))) (fun x a _ _ _ _ _ => O x (by omega)) (O _ (by omega)) (fun _ => ⟨by rw [O 69 (by omega)], by rw [O 69 (by omega)]⟩) (fun x a => O x (by omega)) (fun j q => K j (by omega)) d (O _ (by omega)) (by omega) h30
theorem w_volumeOf {U : NodV} {V : MemV} {H : OneV} {W : WkV} {D : RowV} {n vol : Nat} (r : Rel none U V H W D n) (hN : NodI U n vol) (hM : MemI U V n vol) {J : MJ} (h : RefL J) (I : MI) (G : RowV) (c : Int32) {e : Nat} (he : e < 64) (h1 : ¬ V 1 e = 0) : M_X10_volumeOf [mR (some 188), mI (nI e)] (rF I D G c, J) = some (some (mI (vl U V e)), (rF I D G c, J)) := by
  have n60 := hN.n60
  have en := r.B.en e he h1
  rw [E_X10_volumeOf]
  simp only [h.kt, if_true, w_its h _ 3 (show (3 : Int32) = nI 3 from rfl) (show e < 128 by omega) (by decide), w_its h _ 1 (show (1 : Int32) = nI 1 from rfl) (show e < 128 by omega) (by decide), Option.bind_some, asI_I, rF_D, en.2.2.1, en.1]
  unfold vl
  by_cases a : V 4 e = -1
  · obtain ⟨p, kp, p1, p2, p3, k1, kk, _⟩ := Inv.absp hN hM he h1 a
    have ep := r.B.en p p1 (by rw [p3]; exact i10)
    rw [if_pos a, if_pos a, p2, ix64 p1, kk, ix_nI (by omega)]
    simp only [h.kt, if_true, w_its h _ 3 (show (3 : Int32) = nI 3 from rfl) (show p < 128 by omega) (by decide), Option.bind_some, asI_I, rF_D, ep.2.2.1, kk, w_nodeHas h _ 0 (show (0 : Int32) = nI 0 from rfl) (show kp < 60 by omega) (by decide), (r.B.nd kp k1).1]
  · obtain ⟨k, k1, kk⟩ := Inv.nod hN hM he h1 a
    rw [if_neg a, if_neg a, kk, ix_nI (by omega)]
    simp only [h.kt, if_true, w_nodeHas h _ 0 (show (0 : Int32) = nI 0 from rfl) (show k < 60 by omega) (by decide), Option.bind_some, asI_I, rF_D, (r.B.nd k k1).1]
theorem cov_q {V : MemV} {f : Nat} (hf : f < 64) : q_X1_coveringVolume V (nI f) = oI (fst? (fun w => decide (V 10 w = nI f)) 0 3) := by
  unfold q_X1_coveringVolume ql_X1_coveringVolume
  have ne : ¬ nI f = -1 := nI_m1 (by omega)
  have : f_X1_coveringVolume V (nI f) = fst? (fun w => decide (V 10 w = nI f)) 0 3 := by
    unfold f_X1_coveringVolume
    refine fst_cong (fun k _ _ => ?_)
    rw [if_neg ne]
    by_cases z : V 10 k = nI f
    · simp [z]
    · simp [z]
  rw [this]
theorem cov_hcV {V : MemV} {f : Nat} (hf : f < 64) : q_X1_coveringVolume V (nI f) = -1 ↔ hcV V f = 0 := by
  rw [cov_q hf]
  unfold hcV
  cases q : fst? (fun w => decide (V 10 w = nI f)) 0 3 with
  | none =>
    have := fst_none q
    exact ⟨fun _ => cnt_zero (fun i a b => this i a b), fun _ => rfl⟩
  | some v =>
    obtain ⟨_, v3, v4, _⟩ := fst_some q
    constructor
    · intro z
      exact absurd z (nI_m1 (show v < 2 ^ 31 by omega))
    · intro z
      have := cnt_z z v (Nat.zero_le _) v3
      rw [v4] at this
      cases this
/-- in use, said once -/
def useB (U : NodV) (V : MemV) (H : OneV) (W : WkV) (x : Int32) (e : Nat) : Bool := decide (e < 64) && (ofB U V x e && decide (0 < hcV V e + (hcH H e + hcW W e)))
theorem useB_t {U : NodV} {V : MemV} {H : OneV} {W : WkV} {x : Int32} {e : Nat} : useB U V H W x e = true ↔ e < 64 ∧ ofB U V x e = true ∧ 0 < hcV V e + (hcH H e + hcW W e) := by
  unfold useB
  simp
theorem busy_q {U : NodV} {V : MemV} {H : OneV} {W : WkV} {n vol t T : Nat} (i : Inv U V H W n vol t T (fun _ => 0)) (x : Int32) : q_X1_isBusy U V x = match fst? (useB U V H W x) 0 64 with
    | some _ => 1
    | none => 0 := by
  have e : f_X1_isBusy U V x = fst? (useB U V H W x) 0 64 := by
    unfold f_X1_isBusy
    refine fst_cong (fun k _ hk => ?_)
    have k64 : k < 64 := by omega
    rw [isOf_q i.N i.M k64 rfl rfl rfl (fun _ _ _ _ => rfl) x]
    by_cases o : ofB U V x k = true
    · rw [if_pos o, if_neg i10]
      obtain ⟨l1, _⟩ := (i.L k k64).2.2 (ofB_t.mp o).1
      simp only [Nat.add_zero] at l1
      have hb : q_X1_heldBelow V (nI k) = nI (hcC V k) := by
        have cc : c_X1_heldBelow V (nI k) = hcC V k := by
          unfold c_X1_heldBelow hcC
          refine cnt_cong (fun j _ _ => ?_)
          by_cases a : V 1 j = 0
          · simp [a]
          · by_cases b : V 2 j = nI k
            · simp [a, b]
            · simp [a, b]
        unfold q_X1_heldBelow ql_X1_heldBelow
        rw [cc]
      have le := i.hle k
      have hs : hc V H W k = hcC V k + hcV V k + (hcH H k + hcW W k) := rfl
      rw [l1, hb]
      by_cases z : 0 < hcV V k + (hcH H k + hcW W k)
      · have : ¬ nI (hc V H W k) ≤ nI (hcC V k) := nI_ge (by omega) (by omega)
        rw [if_neg this, useB_t.mpr ⟨k64, o, z⟩]
      · have : nI (hc V H W k) ≤ nI (hcC V k) := nI_le (by omega) (by omega)
        rw [if_pos this]
        cases q : useB U V H W x k with
        | false => rfl
        | true => exact absurd (useB_t.mp q).2.2 z
    · rw [if_neg o, if_pos rfl]
      cases q : useB U V H W x k with
      | false => rfl
      | true => exact absurd (useB_t.mp q).2.1 o
  unfold q_X1_isBusy ql_X1_isBusy
  rw [e]
  cases fst? (useB U V H W x) 0 64 <;> rfl
theorem w_isInUse {U : NodV} {V : MemV} {H : OneV} {W : WkV} {D : RowV} {n vol t T : Nat} (r : Rel none U V H W D n) (i : Inv U V H W n vol t T (fun _ => 0)) {J : MJ} (h : RefL J) (I : MI) (G : RowV) (c : Int32) (x : Int32) : ∃ G', M_X10_isInUse [mR (some 188), mI x] (rF I D G c, J) = some (some (mI (q_X1_isBusy U V x)), (rF I D G' c, J)) := by
  obtain ⟨c1, c2, c3⟩ := r.ch i
  have s1 := loop_all (fun k G => Ev T_X10_isInUse 2 [some (mR (some 188)), some (mI x), some (mI (nI k))] [] (rF I D G c, J)) (fun k G => sD G k 0) 128 G (fun k G hk => by
    try dsimp only
    rw [E_X10_isInUse_2, if_neg (show ¬ (128 : Int32) ≤ nI k from nI_ge hk (by decide))]
    simp only [h.f19, Option.bind_some, h.stG _ _ rfl hk, rF_sG, nI_1])
  try dsimp only at s1
  rw [show (nI 0) = 0 from rfl] at s1
  have g0 : ∀ e, e < 128 → itr (fun k G => sD G k 0) 0 128 G e = 0 := fun e he => by rw [itr_sD0, if_pos (by omega)]
  generalize itr (fun k G => sD G k 0) 0 128 G = G0 at s1 g0
  obtain ⟨G', g1, g2⟩ := w_countsHands h I D G0 c c1 c2
  have gv : ∀ e, e < 64 → ¬ V 1 e = 0 → G' e = nI (hcH H e + hcW W e) := fun e he q => by
    rw [g2 e (by omega), g0 e (by omega), r.eqh i e, show pnd none V W e = 0 from rfl]
    exact Int32.zero_add _
  refine ⟨G', ?_⟩
  rw [E_X10_isInUse, s1, E_X10_isInUse_2, if_pos (show (128 : Int32) ≤ nI 128 by decide)]
  simp only [h.kt, if_true, g1, Option.bind_some, asV_n]
  have fl := loop_find (fun k => Ev T_X10_isInUse 28 [some (mR (some 188)), some (mI x), some (mI (nI k))] [] (rF I D G' c, J)) (useB U V H W x) (fun _ => some (some (mI 1), (rF I D G' c, J))) 128 (fun k hk => by
    try dsimp only
    rw [E_X10_isInUse_28, if_neg (show ¬ (128 : Int32) ≤ nI k from nI_ge hk (by decide))]
    simp only [h.kt, if_true, w_its h _ 0 (show (0 : Int32) = nI 0 from rfl) hk (by decide), w_its h _ 7 (show (7 : Int32) = nI 7 from rfl) hk (by decide), Option.bind_some, asI_I, rF_D, nI_1, h.f19, h.ldG _ rfl hk, rF_G]
    by_cases l : k < 64 ∧ ¬ V 1 k = 0
    · obtain ⟨k64, v1⟩ := l
      have en := r.B.en k k64 v1
      have le := i.hle k
      have b0 : hcH H k + hcW W k ≤ 200 := by unfold hc at le; omega
      rw [r.B.th1 k64 v1, if_pos rfl, gv k k64 v1, en.2.2.2.2.2.2.1]
      simp only [w_volumeOf r i.N i.M h I G' c k64 v1, Option.bind_some, asI_I]
      by_cases o : vl U V k = x
      · have ob : ofB U V x k = true := ofB_t.mpr ⟨v1, o⟩
        by_cases z : 0 < hcH H k + hcW W k
        · have : (0 : Int32) < nI (hcH H k + hcW W k) := by rw [← nI_0]; exact nI_lt z (by omega)
          rw [if_pos this, if_pos o, if_pos (useB_t.mpr ⟨k64, ob, by omega⟩)]
          simp
        · have z0 : hcH H k + hcW W k = 0 := by omega
          have : ¬ (0 : Int32) < nI (hcH H k + hcW W k) := by rw [z0]; decide
          rw [if_neg this]
          by_cases cv : q_X1_coveringVolume V (nI k) = -1
          · have := (cov_hcV k64).mp cv
            rw [if_pos cv, if_neg (fun w => by have := (useB_t.mp w).2.2; omega)]
          · have : ¬ hcV V k = 0 := fun w => cv ((cov_hcV k64).mpr w)
            rw [if_neg cv, if_pos o, if_pos (useB_t.mpr ⟨k64, ob, by omega⟩)]
            simp
      · have nb : ¬ useB U V H W x k = true := fun w => o (ofB_t.mp (useB_t.mp w).2.1).2
        rw [if_neg nb]
        by_cases z : (0 : Int32) < nI (hcH H k + hcW W k)
        · rw [if_pos z, if_neg o]
        · rw [if_neg z]
          by_cases cv : q_X1_coveringVolume V (nI k) = -1
          · rw [if_pos cv]
          · rw [if_neg cv, if_neg o]
    · have nb : ¬ useB U V H W x k = true := fun w => l ⟨(useB_t.mp w).1, (ofB_t.mp (useB_t.mp w).2.1).1⟩
      rw [r.B.th k hk, if_neg l, if_neg i01, if_neg nb]) 128 0 rfl
  try dsimp only at fl
  rw [show (nI 0) = 0 from rfl] at fl
  rw [fl, busy_q i x]
  have fe : fst? (useB U V H W x) 0 128 = fst? (useB U V H W x) 0 64 := fst_ext (n := 64) (m := 64) (fun k a _ => by
    cases q : useB U V H W x k with
    | false => rfl
    | true => have := (useB_t.mp q).1; omega)
  rw [fe]
  cases fst? (useB U V H W x) 0 64 with
  | some k => rfl
  | none =>
    show Ev T_X10_isInUse 28 [some (mR (some 188)), some (mI x), some (mI (nI 128))] [] (rF I D G' c, J) = _
    rw [E_X10_isInUse_28, if_pos (show (128 : Int32) ≤ nI 128 by decide)]
    simp
theorem itr_pr {b : Nat → Bool} : ∀ (n k : Nat) (A : RowV) (c : Nat), (∀ j, (itr (fun k (a : RowV × Nat) => (sD a.1 k (if b k = true then 1 else 0), a.2 + if b k = true then 1 else 0)) k n (A, c)).1 j = if k ≤ j ∧ j < k + n then (if b j = true then 1 else 0) else A j) ∧ (itr (fun k (a : RowV × Nat) => (sD a.1 k (if b k = true then 1 else 0), a.2 + if b k = true then 1 else 0)) k n (A, c)).2 = c + cnt b k n
  | 0, k, A, c => ⟨fun j => by
      show A j = _
      rw [if_neg (by omega)], rfl⟩
  | n + 1, k, A, c => by
    obtain ⟨i1, i2⟩ := itr_pr (b := b) n (k + 1) (sD A k (if b k = true then 1 else 0)) (c + if b k = true then 1 else 0)
    refine ⟨fun j => ?_, ?_⟩
    · show (itr _ (k + 1) n (sD A k (if b k = true then 1 else 0), c + if b k = true then 1 else 0)).1 j = _
      rw [i1]
      unfold sD
      by_cases z : j = k
      · subst z
        rw [if_neg (show ¬ (j + 1 ≤ j ∧ j < j + 1 + n) by omega), if_pos rfl, if_pos (show j ≤ j ∧ j < j + (n + 1) by omega)]
      · by_cases y : k + 1 ≤ j ∧ j < k + 1 + n
        · rw [if_pos y, if_pos (show k ≤ j ∧ j < k + (n + 1) by omega)]
        · rw [if_neg y, if_neg z, if_neg (show ¬ (k ≤ j ∧ j < k + (n + 1)) by omega)]
    · show (itr _ (k + 1) n (sD A k (if b k = true then 1 else 0), c + if b k = true then 1 else 0)).2 = _
      rw [i2]
      show _ = c + ((if b k = true then 1 else 0) + cnt b (k + 1) n)
      omega
/-- the entries of A are gone -/
def gnD (A : RowV) (k : Nat) (D : RowV) : RowV := if A k = 0 then D else sD D (701 + 9 * k + 0) 0
theorem itr_gn (A : RowV) : ∀ (n k : Nat) (D : RowV) (j : Nat), (∀ i, k ≤ i → i < k + n → j ≠ 701 + 9 * i + 0) → itr (gnD A) k n D j = D j
  | 0, k, D, j, _ => rfl
  | n + 1, k, D, j, h => by
    show itr (gnD A) (k + 1) n (gnD A k D) j = D j
    rw [itr_gn A n (k + 1) _ j (fun i a b => h i (by omega) (by omega))]
    unfold gnD
    by_cases z : A k = 0
    · rw [if_pos z]
    · rw [if_neg z, sD_n _ _ (h k (Nat.le_refl _) (by omega))]
theorem itr_gn_at (A : RowV) : ∀ (n k : Nat) (D : RowV) (i : Nat), k ≤ i → i < k + n → itr (gnD A) k n D (701 + 9 * i + 0) = if A i = 0 then D (701 + 9 * i + 0) else 0
  | 0, k, D, i, h1, h2 => by omega
  | n + 1, k, D, i, h1, h2 => by
    show itr (gnD A) (k + 1) n (gnD A k D) (701 + 9 * i + 0) = _
    by_cases z : i = k
    · subst z
      rw [itr_gn A n (i + 1) _ _ (fun j a b => by omega)]
      unfold gnD
      by_cases y : A i = 0
      · rw [if_pos y, if_pos y]
      · rw [if_neg y, if_neg y, sD_s]
    · rw [itr_gn_at A n (k + 1) _ i (by omega) (by omega)]
      have : gnD A k D (701 + 9 * i + 0) = D (701 + 9 * i + 0) := by
        unfold gnD
        by_cases y : A k = 0
        · rw [if_pos y]
        · rw [if_neg y, sD_n _ _ (by omega)]
      rw [this]

/-! A walker changed, on both sides. -/
theorem RelB.dd {U : NodV} {V V' : MemV} {H : OneV} {D D' : RowV} {n : Nat} (b : RelB U V H D n) (hd : ∀ j, j < 17 ∨ 401 ≤ j → D' j = D j) (k : ∀ r : Fin 12, r ≠ 0 → r ≠ 5 → r ≠ 11 → V' r = V r) (h0 : V' 0 11 = V 0 11 ∧ V' 0 12 = V 0 12 ∧ V' 0 13 = V 0 13 ∧ V' 0 14 = V 0 14) : RelB U V' H D' n := by
  have b2 := b.fr k h0
  refine ⟨?_, ?_, ?_, ?_, ?_, ?_, ?_, ?_, ?_, ?_, ?_⟩
  · rw [hd _ (by omega)]; exact b2.tk
  · rw [hd _ (by omega)]; exact b2.lo
  · rw [hd _ (by omega)]; exact b2.tr
  · rw [hd _ (by omega)]; exact b2.rm
  · rw [hd _ (by omega)]; exact b2.ev
  · intro v hv
    rw [hd _ (by omega)]; exact b2.rt v hv
  · intro v hv
    rw [hd _ (by omega)]; exact b2.ov v hv
  · intro j hj
    rw [hd _ (by omega)]; exact b2.ha j hj
  · intro j hj
    rw [hd _ (by omega), hd _ (by omega), hd _ (by omega), hd _ (by omega), hd _ (by omega)]; exact b2.nd j hj
  · intro f hf
    rw [hd _ (by omega)]; exact b2.th f hf
  · intro f hf q
    rw [hd _ (by omega), hd _ (by omega), hd _ (by omega), hd _ (by omega), hd _ (by omega), hd _ (by omega), hd _ (by omega), hd _ (by omega)]; exact b2.en f hf q
theorem RelK.dd {w : OneV × RouV × TriV} {D D' : RowV} {j : Nat} (h : RelK w D j) (hd : ∀ i, i < 96 → D' (17 + 96 * j + i) = D (17 + 96 * j + i)) : RelK w D' j := by
  obtain ⟨c1, c2, c3, c4⟩ := h
  refine ⟨by rw [hd _ (by omega)]; exact c1, fun q => ?_, fun q i hi h2 => ?_, fun q i hi h2 => ?_⟩
  · rw [hd _ (by omega), hd _ (by omega), hd _ (by omega), hd _ (by omega)]; exact c2 q
  · rw [hd _ (by omega)]; exact c3 q i hi h2
  · rw [hd _ (by omega), hd _ (by omega), hd _ (by omega)]; exact c4 q i hi h2
/-- the walker k stands otherwise, and goes -/
theorem Rel.wch {wk : Option Nat} {U : NodV} {V V' : MemV} {H : OneV} {W W' : WkV} {D D' : RowV} {n : Nat} (r : Rel wk U V H W D n) {k : Nat} (k4 : k < 4) (hwk : wk = none ∨ wk = some k) (b : RelB U V' H D' n) (hD : ∀ j, 17 ≤ j → j < 401 → (j < 17 + 96 * k ∨ 17 + 96 * k + 96 ≤ j) → D' j = D j) (w1 : ∀ j, j ≠ k → W' j = W j) (hK : RelK (W' k) D' k) (hT : ∃ m tl, RelT (W' k) V' D' k m tl) : Rel (some k) U V' H W' D' n := by
  have oj : ∀ j, j < 4 → j ≠ k → ∀ i, i < 96 → D' (17 + 96 * j + i) = D (17 + 96 * j + i) := fun j j4 jk i hi => hD _ (by omega) (by omega) (by omega)
  refine ⟨b, fun j hj => ?_, fun j hj q z => ?_, fun j z => ?_⟩
  · by_cases jk : j = k
    · subst jk
      exact hK
    · rw [w1 j jk]
      exact (r.K j hj).dd (oj j hj jk)
  · have jk : j ≠ k := fun y => z (by rw [y])
    rw [w1 j jk] at q ⊢
    have nk : wk ≠ some j := by
      rcases hwk with y | y
      · rw [y]; exact fun x => by cases x
      · rw [y]; exact fun x => jk (by cases x; rfl)
    exact ⟨by rw [oj j hj jk 5 (by decide)]; exact r.M j hj q nk, r.R2 j hj q nk⟩
  · cases z
    exact ⟨k4, hT⟩
/-- the walker k stands otherwise, and rests -/
theorem Rel.wno {wk : Option Nat} {U : NodV} {V V' : MemV} {H : OneV} {W W' : WkV} {D D' : RowV} {n : Nat} (r : Rel wk U V H W D n) {k : Nat} (k4 : k < 4) (hwk : wk = none ∨ wk = some k) (b : RelB U V' H D' n) (hD : ∀ j, 17 ≤ j → j < 401 → (j < 17 + 96 * k ∨ 17 + 96 * k + 96 ≤ j) → D' j = D j) (w1 : ∀ j, j ≠ k → W' j = W j) (hK : RelK (W' k) D' k) (hT : ¬ bz ((W' k).1 0 5) = 0 → D' (17 + 96 * k + 5) = (W' k).1 0 4 ∧ ∃ r, r ≤ 2 ∧ (W' k).1 0 7 = nI r) : Rel none U V' H W' D' n := by
  have oj : ∀ j, j < 4 → j ≠ k → ∀ i, i < 96 → D' (17 + 96 * j + i) = D (17 + 96 * j + i) := fun j j4 jk i hi => hD _ (by omega) (by omega) (by omega)
  refine ⟨b, fun j hj => ?_, fun j hj q z => ?_, fun j z => by cases z⟩
  · by_cases jk : j = k
    · subst jk
      exact hK
    · rw [w1 j jk]
      exact (r.K j hj).dd (oj j hj jk)
  · by_cases jk : j = k
    · subst jk
      exact hT q
    · rw [w1 j jk] at q ⊢
      have nk : wk ≠ some j := by
        rcases hwk with y | y
        · rw [y]; exact fun x => by cases x
        · rw [y]; exact fun x => jk (by cases x; rfl)
      exact ⟨by rw [oj j hj jk 5 (by decide)]; exact r.M j hj q nk, r.R2 j hj q nk⟩
/-- a walker that has stopped -/
theorem Rel.wover {wk : Option Nat} {U : NodV} {V : MemV} {H : OneV} {W W' : WkV} {D D' : RowV} {n : Nat} (r : Rel wk U V H W D n) {k : Nat} (k4 : k < 4) (hwk : wk = none ∨ wk = some k) (hD : ∀ j, (j < 17 + 96 * k ∨ 17 + 96 * k + 96 ≤ j) → D' j = D j) (h0 : D' (17 + 96 * k + 0) = 0) (w1 : ∀ j, j ≠ k → W' j = W j) (w0 : bz ((W' k).1 0 5) = 0) : Rel none U V H W' D' n :=
  r.wno k4 hwk (r.B.dd (fun j q => hD j (by omega)) (fun _ _ _ _ => rfl) ⟨rfl, rfl, rfl, rfl⟩) (fun j _ _ q => hD j q) w1 ⟨by rw [h0, w0], fun q => absurd w0 q, fun q => absurd w0 q, fun q => absurd w0 q⟩ (fun q => absurd w0 q)
theorem tz_sym (V : MemV) : (∀ r : Fin 12, r ≠ 0 → r ≠ 5 → r ≠ 11 → V r = tz V r) ∧ V 0 11 = tz V 0 11 ∧ V 0 12 = tz V 0 12 ∧ V 0 13 = tz V 0 13 ∧ V 0 14 = tz V 0 14 :=
  ⟨fun r h _ _ => (tz_k V r h).symm, (tz_0 V (by decide)).symm, (tz_0 V (by decide)).symm, (tz_0 V (by decide)).symm, (tz_0 V (by decide)).symm⟩
theorem Rel.mid {U : NodV} {V : MemV} {H : OneV} {W : WkV} {D : RowV} {n : Nat} (r : Rel none U V H W D n) {k m : Nat} (k4 : k < 4) (uw : ¬ bz ((W k).1 0 5) = 0) (hm : (W k).1 0 4 = nI m) (m25 : m ≤ 25) : Rel (some k) U (tz V) H W D n :=
  r.wch k4 (Or.inl rfl) r.tzi.B (fun _ _ _ _ => rfl) (fun _ _ => rfl) (r.K k k4) ⟨m, 0, uw, hm, tz_16 V, by omega, by omega, by rw [r.M k k4 uw (fun z => by cases z)]; exact hm, fun j hj => by omega⟩
theorem Rel.rest {U : NodV} {V : MemV} {H : OneV} {W : WkV} {D : RowV} {n : Nat} {k : Nat} (r : Rel (some k) U (tz V) H W D n) (r2 : ∃ r, r ≤ 2 ∧ (W k).1 0 7 = nI r) : Rel none U V H W D n := by
  obtain ⟨k4, m, tl, t1, t2, t3, t4, t5, t6, _⟩ := r.T k rfl
  have z : tl = 0 := (nI_eq (by omega) (by omega)).mp (t3.symm.trans (tz_16 V))
  subst z
  refine r.wno k4 (Or.inr rfl) (r.B.fr (tz_sym V).1 (tz_sym V).2) (fun _ _ _ _ => rfl) (fun _ _ => rfl) (r.K k k4) (fun _ => ⟨?_, r2⟩)
  rw [t6, t2]
  rfl
/-- the trail is taken along -/
theorem Rel.tk {U : NodV} {V V' : MemV} {H : OneV} {W W' : WkV} {D : RowV} {n k : Nat} (r : Rel (some k) U V H W D n) {K K' : OneV} {P : RouV} {B B' : TriV} {m tl : Nat} (wk : W k = (K, P, B)) (w1 : ∀ j, j ≠ k → W' j = W j) (wk' : W' k = (K', P, B')) (h4 : K 0 4 = nI m) (h16 : V 0 16 = nI tl) (tl2 : tl ≤ 2) (mb : m + tl ≤ 25) (o : TkO m tl 0 K B V (K', B', V')) : Rel (some k) U (tz V') H W' D n := by
  obtain ⟨o1, o2, o3, o4, o5, o6⟩ := o
  have kv : ∀ r : Fin 12, r ≠ 5 → V' r = V r := o5
  obtain ⟨k4, m', tl', t1, t2, t3, t4, t5, t6, t7⟩ := r.T k rfl
  rw [wk] at t2
  have mm : m' = m := (nI_eq (by omega) (by omega)).mp (t2.symm.trans h4)
  have tt : tl' = tl := (nI_eq (by omega) (by omega)).mp (t3.symm.trans h16)
  subst mm tt
  obtain ⟨c1, c2, c3, c4⟩ := r.K k k4
  rw [wk] at c1 c2 c3 c4 t1
  have e5 : K' 0 5 = K 0 5 := o2 5 (by decide)
  have e6 : K' 0 6 = K 0 6 := o2 6 (by decide)
  have e7 : K' 0 7 = K 0 7 := o2 7 (by decide)
  have e8 : K' 0 8 = K 0 8 := o2 8 (by decide)
  have o1' : K' 0 4 = nI (m' + tl') := o1
  refine r.wch k4 (Or.inr rfl) (r.B.dd (fun _ _ => rfl) (fun q h0 h5 _ => by rw [tz_k V' q h0]; exact kv q h5) ⟨?_, ?_, ?_, ?_⟩) (fun _ _ _ _ => rfl) w1 ?_ ⟨m' + tl', 0, ?_, ?_, tz_16 V', by omega, by omega, ?_, fun j hj => by omega⟩
  · rw [tz_0 V' (by decide), kv 0 (by decide)]
  · rw [tz_0 V' (by decide), kv 0 (by decide)]
  · rw [tz_0 V' (by decide), kv 0 (by decide)]
  · rw [tz_0 V' (by decide), kv 0 (by decide)]
  · rw [wk']
    refine ⟨?_, fun q => ?_, fun q => ?_, fun q j hj h2 => ?_⟩
    · show D (17 + 96 * k + 0) = bz (K' 0 5)
      rw [e5]; exact c1
    · have q : ¬ bz (K' 0 5) = 0 := q
      rw [e5] at q
      have := c2 q
      show D (17 + 96 * k + 1) = bz (K' 0 6) ∧ D (17 + 96 * k + 2) = K' 0 7 ∧ D (17 + 96 * k + 3) = K' 0 8 ∧ D (17 + 96 * k + 4) = P 0 1
      rw [e6, e7, e8]
      exact this
    · have q : ¬ bz (K' 0 5) = 0 := q
      rw [e5] at q
      exact c3 q
    · have q : ¬ bz (K' 0 5) = 0 := q
      rw [e5] at q
      have h2 : j < ix (K' 0 4) := h2
      rw [o1', ix_nI (by omega)] at h2
      by_cases z : j < m'
      · have b0 : B' 0 j = B 0 j := o4 0 j (Or.inl (by omega))
        have b1 : B' 1 j = B 1 j := o4 1 j (Or.inl (by omega))
        have b2 : B' 2 j = B 2 j := o4 2 j (Or.inl (by omega))
        show D (17 + 96 * k + (18 + 3 * j)) = B' 0 j ∧ D (17 + 96 * k + (18 + 3 * j + 1)) = B' 1 j ∧ D (17 + 96 * k + (18 + 3 * j + 2)) = B' 2 j
        rw [b0, b1, b2]
        exact c4 q j hj (by show j < ix (K 0 4); rw [h4, ix_nI (by omega)]; exact z)
      · obtain ⟨e, e1, e2, e3, e4, e5⟩ := t7 (j - m') (by omega)
        rw [show m' + (j - m') = j by omega] at e3 e4 e5
        obtain ⟨b0, b1, b2⟩ := o3 j (by omega) h2
        have b0 : B' 0 j = V 11 (j - m') := b0
        have b1 : B' 1 j = V 8 (ix (V 11 (j - m'))) := b1
        have b2 : B' 2 j = V 6 (ix (V 11 (j - m'))) := b2
        show D (17 + 96 * k + (18 + 3 * j)) = B' 0 j ∧ D (17 + 96 * k + (18 + 3 * j + 1)) = B' 1 j ∧ D (17 + 96 * k + (18 + 3 * j + 2)) = B' 2 j
        rw [b0, b1, b2, e2, ix64 e1]
        exact ⟨e3, e4, e5⟩
  · rw [wk']
    show ¬ bz (K' 0 5) = 0
    rw [e5]; exact t1
  · rw [wk']; exact o1
  · exact t6
/-- how far a walker has come -/
theorem Rel.set3 {U : NodV} {V : MemV} {H : OneV} {W W' : WkV} {D : RowV} {n k : Nat} (r : Rel (some k) U V H W D n) {K : OneV} {P : RouV} {B : TriV} (wk : W k = (K, P, B)) (v : Int32) (w1 : ∀ j, j ≠ k → W' j = W j) (wk' : W' k = (uv K 0 8 v, P, B)) : Rel (some k) U V H W' (sD D (17 + 96 * k + 3) v) n := by
  obtain ⟨k4, m, tl, t1, t2, t3, t4, t5, t6, t7⟩ := r.T k rfl
  obtain ⟨c1, c2, c3, c4⟩ := r.K k k4
  rw [wk] at c1 c2 c3 c4 t1 t2
  have o : ∀ j, j ≠ 17 + 96 * k + 3 → sD D (17 + 96 * k + 3) v j = D j := fun j q => sD_n _ _ q
  have kj : ∀ j, j ≠ 8 → uv K 0 8 v 0 j = K 0 j := fun j q => uv_n _ _ _ _ _ _ (fun w => q w.2)
  have k5 : bz (uv K 0 8 v 0 5) = bz (K 0 5) := by rw [kj 5 (by decide)]
  refine r.wch k4 (Or.inr rfl) (r.B.dd (fun j q => o j (by omega)) (fun _ _ _ _ => rfl) ⟨rfl, rfl, rfl, rfl⟩) (fun j _ _ q => o j (by omega)) w1 ?_ ⟨m, tl, ?_, ?_, t3, t4, t5, ?_, fun j hj => ?_⟩
  · rw [wk']
    refine ⟨?_, fun q => ?_, fun q j hj h2 => ?_, fun q j hj h2 => ?_⟩
    · show sD D (17 + 96 * k + 3) v (17 + 96 * k + 0) = bz (uv K 0 8 v 0 5)
      rw [o _ (by omega), k5]; exact c1
    · have q : ¬ bz (uv K 0 8 v 0 5) = 0 := q
      rw [k5] at q
      obtain ⟨a1, a2, a3, a4⟩ := c2 q
      show sD D (17 + 96 * k + 3) v (17 + 96 * k + 1) = bz (uv K 0 8 v 0 6) ∧ sD D (17 + 96 * k + 3) v (17 + 96 * k + 2) = uv K 0 8 v 0 7 ∧ sD D (17 + 96 * k + 3) v (17 + 96 * k + 3) = uv K 0 8 v 0 8 ∧ sD D (17 + 96 * k + 3) v (17 + 96 * k + 4) = P 0 1
      rw [o _ (by omega), o _ (by omega), o (17 + 96 * k + 4) (by omega), sD_s, uv_s, kj 6 (by decide), kj 7 (by decide)]
      exact ⟨a1, a2, rfl, a4⟩
    · have q : ¬ bz (uv K 0 8 v 0 5) = 0 := q
      rw [k5] at q
      rw [o _ (by omega)]
      exact c3 q j hj h2
    · have q : ¬ bz (uv K 0 8 v 0 5) = 0 := q
      rw [k5] at q
      have h2 : j < ix (uv K 0 8 v 0 4) := h2
      rw [kj 4 (by decide)] at h2
      rw [o _ (by omega), o _ (by omega), o _ (by omega)]
      exact c4 q j hj h2
  · rw [wk']
    show ¬ bz (uv K 0 8 v 0 5) = 0
    rw [k5]; exact t1
  · rw [wk']
    show uv K 0 8 v 0 4 = nI m
    rw [kj 4 (by decide)]; exact t2
  · rw [o _ (by omega)]; exact t6
  · rw [o _ (by omega), o _ (by omega), o _ (by omega)]; exact t7 j hj

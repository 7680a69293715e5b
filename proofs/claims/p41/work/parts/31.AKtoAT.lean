section
/-! What a walker takes along its way. -/
def wkS (W : WkV) (k : Nat) (w : OneV × RouV × TriV) : WkV := fun j => if j = k then w else W j
theorem wkS_s (W : WkV) (k : Nat) (w : OneV × RouV × TriV) : wkS W k w k = w := if_pos rfl
theorem wkS_n (W : WkV) {k j : Nat} (w : OneV × RouV × TriV) (h : j ≠ k) : wkS W k w j = W j := if_neg h
def TkO (m tl k : Nat) (K : OneV) (B : TriV) (V : MemV) (o : OneV × TriV × MemV) : Prop := o.1 0 4 = nI (m + tl) ∧ (∀ j, j ≠ 4 → o.1 0 j = K 0 j) ∧ (∀ j, m + k ≤ j → j < m + tl → o.2.1 0 j = V 11 (j - m) ∧ o.2.1 1 j = V 8 (ix (V 11 (j - m))) ∧ o.2.1 2 j = V 6 (ix (V 11 (j - m)))) ∧ (∀ (q : Fin 3) (j : Nat), j < m + k ∨ m + tl ≤ j → o.2.1 q j = B q j) ∧ (∀ r : Fin 12, r ≠ 5 → o.2.2 r = V r) ∧ ∀ f, f < 64 → o.2.2 5 f = if bz (K 0 6) = 0 then V 5 f else V 5 f + nI (cnt (fun j => decide (V 11 j = nI f)) k (tl - k))
theorem At.abs {V : MemV} {f : Nat} (h : At V f) : q_X1_isAbsence V (nI f) = 0 := by
  unfold q_X1_isAbsence
  rw [Inv.isE h.1 (by rw [h.2.1]; exact i10), if_neg i10, ix64 h.1, if_neg h.2.2]
theorem tkt_loop {m tl : Nat} (tl2 : tl ≤ 2) (mb : m + tl ≤ 25) : ∀ (nn k : Nat) (K : OneV) (B : TriV) (V : MemV), k + nn = 2 → k ≤ tl → K 0 4 = nI (m + k) → V 0 16 = nI tl → (∀ j, k ≤ j → j < tl → ∃ f, V 11 j = nI f ∧ At V f) → TkO m tl k K B V (lp_X7_takeTrail_2 nn k K B V) := by
  intro nn
  induction nn with
  | zero =>
    intro k K B V hk kt h4 h16 ha
    have z : k = tl := by omega
    subst z
    have e : lp_X7_takeTrail_2 0 k K B V = (K, B, V) := by
      show (if (V 0 16) ≤ (nI k) then (K, B, V) else (K, B, V)) = _
      rw [ite_self]
    rw [e]
    refine ⟨h4, fun _ _ => rfl, fun j a b => by omega, fun _ _ _ => rfl, fun _ _ => rfl, fun f _ => ?_⟩
    rw [Nat.sub_self]
    show V 5 f = if bz (K 0 6) = 0 then V 5 f else V 5 f + nI 0
    rw [show V 5 f + nI 0 = V 5 f from Int32.add_zero _, ite_self]
  | succ nn ih =>
    intro k K B V hk kt h4 h16 ha
    have st : lp_X7_takeTrail_2 (nn + 1) k K B V = (if (V 0 16) ≤ (nI k) then (K, B, V) else (if (q_X1_isEntry V (V 11 k)) = 0 then lp_X7_takeTrail_2  nn (k + 1) K B V else (if (q_X1_isAbsence V (V 11 k)) = 0 then (if (K 0 4) < 0 then lp_X7_takeTrail_2  nn (k + 1) K B V else (if (25 : Int32) ≤ (K 0 4) then lp_X7_takeTrail_2  nn (k + 1) K B V else (if (bz (K 0 6)) = 0 then lp_X7_takeTrail_2  nn (k + 1) (uv K 0 4 ((K 0 4) + 1)) (uv (uv (uv B 0 (ix (K 0 4)) (V 11 k)) 1 (ix (K 0 4)) (V 8 (ix (V 11 k)))) 2 (ix (K 0 4)) (V 6 (ix (V 11 k)))) V else lp_X7_takeTrail_2  nn (k + 1) (uv K 0 4 ((K 0 4) + 1)) (uv (uv (uv B 0 (ix (K 0 4)) (V 11 k)) 1 (ix (K 0 4)) (V 8 (ix (V 11 k)))) 2 (ix (K 0 4)) (V 6 (ix (V 11 k)))) (gV_X1_hold V (V 11 k))))) else lp_X7_takeTrail_2  nn (k + 1) K B V))) := rfl
    by_cases z : k = tl
    · subst z
      rw [st, if_pos (by rw [h16]; exact Int32.le_refl _)]
      refine ⟨h4, fun _ _ => rfl, fun j a b => by omega, fun _ _ _ => rfl, fun _ _ => rfl, fun f _ => ?_⟩
      rw [Nat.sub_self]
      show V 5 f = if bz (K 0 6) = 0 then V 5 f else V 5 f + nI 0
      rw [show V 5 f + nI 0 = V 5 f from Int32.add_zero _, ite_self]
    · obtain ⟨f, f1, fa⟩ := ha k (Nat.le_refl _) (by omega)
      have isE := Inv.isE fa.1 (show ¬ V 1 f = 0 by rw [fa.2.1]; exact i10)
      have mk : m + k < 25 := by omega
      rw [st, if_neg (by rw [h16]; exact nI_ge (show k < tl by omega) (by omega)), f1, isE, if_neg i10, fa.abs, if_pos rfl, h4, if_neg (nI_pos (show m + k < 2 ^ 31 by omega)), if_neg (show ¬ (25 : Int32) ≤ nI (m + k) from nI_ge mk (by decide)), show ix (nI (m + k)) = m + k from ix_nI (by omega), ix64 fa.1, nI_1]
      have kk4 : (uv K 0 4 (nI (m + k + 1))) 0 4 = nI (m + (k + 1)) := by rw [uv_s, Nat.add_assoc]
      have kkj : ∀ j, j ≠ 4 → (uv K 0 4 (nI (m + k + 1))) 0 j = K 0 j := fun j q => uv_n _ _ _ _ _ _ (fun w => q w.2)
      have bO : ∀ (q : Fin 3) (j : Nat), j ≠ m + k → (uv (uv (uv B 0 (m + k) (nI f)) 1 (m + k) (V 8 f)) 2 (m + k) (V 6 f)) q j = B q j := fun q j w => by
        rw [uv_n _ _ _ _ _ _ (fun z => w z.2), uv_n _ _ _ _ _ _ (fun z => w z.2), uv_n _ _ _ _ _ _ (fun z => w z.2)]
      have b0 : (uv (uv (uv B 0 (m + k) (nI f)) 1 (m + k) (V 8 f)) 2 (m + k) (V 6 f)) 0 (m + k) = nI f := by
        rw [uv_n _ _ _ _ _ _ (fun z => absurd z.1 (by decide)), uv_n _ _ _ _ _ _ (fun z => absurd z.1 (by decide)), uv_s]
      have b1 : (uv (uv (uv B 0 (m + k) (nI f)) 1 (m + k) (V 8 f)) 2 (m + k) (V 6 f)) 1 (m + k) = V 8 f := by
        rw [uv_n _ _ _ _ _ _ (fun z => absurd z.1 (by decide)), uv_s]
      have b2 : (uv (uv (uv B 0 (m + k) (nI f)) 1 (m + k) (V 8 f)) 2 (m + k) (V 6 f)) 2 (m + k) = V 6 f := uv_s _ _ _ _
      have fin : ∀ (V1 : MemV) (o : OneV × TriV × MemV), (∀ r : Fin 12, r ≠ 5 → V1 r = V r) → TkO m tl (k + 1) (uv K 0 4 (nI (m + k + 1))) (uv (uv (uv B 0 (m + k) (nI f)) 1 (m + k) (V 8 f)) 2 (m + k) (V 6 f)) V1 o → (∀ g, g < 64 → o.2.2 5 g = if bz (K 0 6) = 0 then V 5 g else V 5 g + nI (cnt (fun j => decide (V 11 j = nI g)) k (tl - k))) → TkO m tl k K B V o := by
        intro V1 o kv ⟨o1, o2, o3, o4, o5, o6⟩ o7
        refine ⟨o1, fun j q => by rw [o2 j q, kkj j q], fun j p q => ?_, fun q j w => ?_, fun r w => by rw [o5 r w, kv r w], o7⟩
        · by_cases w : j = m + k
          · subst w
            rw [o4 0 _ (Or.inl (by omega)), o4 1 _ (Or.inl (by omega)), o4 2 _ (Or.inl (by omega)), b0, b1, b2, Nat.add_sub_cancel_left, f1, ix64 fa.1]
            exact ⟨rfl, rfl, rfl⟩
          · have := o3 j (by omega) q
            rw [kv 11 (by decide), kv 8 (by decide), kv 6 (by decide)] at this
            exact this
        · rw [o4 q j (by omega), bO q j (by omega)]
      have k6 : bz ((uv K 0 4 (nI (m + k + 1))) 0 6) = bz (K 0 6) := by rw [kkj 6 (by decide)]
      have cs : ∀ g, g < 64 → cnt (fun j => decide (V 11 j = nI g)) k (tl - k) = (if g = f then 1 else 0) + cnt (fun j => decide (V 11 j = nI g)) (k + 1) (tl - (k + 1)) := fun g hg => by
        rw [show tl - k = (tl - (k + 1)) + 1 by omega]
        show (if decide (V 11 k = nI g) = true then 1 else 0) + cnt (fun j => decide (V 11 j = nI g)) (k + 1) (tl - (k + 1)) = _
        congr 1
        rw [f1]
        by_cases w : g = f
        · rw [w]; simp
        · have : ¬ nI f = nI g := fun y => w ((nI_eq (by have := fa.1; omega) (by omega)).mp y).symm
          simp [w, this]
      by_cases hv : bz (K 0 6) = 0
      · rw [if_pos hv]
        have i1 := ih (k + 1) (uv K 0 4 (nI (m + k + 1))) (uv (uv (uv B 0 (m + k) (nI f)) 1 (m + k) (V 8 f)) 2 (m + k) (V 6 f)) V (by omega) (by omega) kk4 h16 (fun j p q => ha j (by omega) q)
        refine fin V _ (fun _ _ => rfl) i1 (fun g hg => ?_)
        have := i1.2.2.2.2.2 g hg
        rw [k6, if_pos hv] at this
        rw [if_pos hv]
        exact this
      · rw [if_neg hv]
        have ho := ho_k V (nI f)
        have i1 := ih (k + 1) (uv K 0 4 (nI (m + k + 1))) (uv (uv (uv B 0 (m + k) (nI f)) 1 (m + k) (V 8 f)) 2 (m + k) (V 6 f)) (gV_X1_hold V (nI f)) (by omega) (by omega) kk4 (by rw [ho 0 (by decide)]; exact h16) (fun j p q => by
          obtain ⟨g, g1, g2⟩ := ha j (by omega) q
          exact ⟨g, by rw [ho 11 (by decide)]; exact g1, g2.1, by rw [ho 1 (by decide)]; exact g2.2.1, by rw [ho 4 (by decide)]; exact g2.2.2⟩)
        refine fin (gV_X1_hold V (nI f)) _ (fun r q => ho r q) i1 (fun g hg => ?_)
        have := i1.2.2.2.2.2 g hg
        rw [k6, if_neg hv, ho 11 (by decide), ho_5 V fa.1] at this
        rw [if_neg hv, cs g hg, this]
        by_cases w : g = f
        · rw [if_pos w, if_pos w, w, ← nI_add, ← Int32.add_assoc]
          rfl
        · rw [if_neg w, if_neg w, Nat.zero_add]
theorem tkt_all {m tl : Nat} (tl2 : tl ≤ 2) (mb : m + tl ≤ 25) {K : OneV} {B : TriV} {V : MemV} (h4 : K 0 4 = nI m) (h16 : V 0 16 = nI tl) (ha : ∀ j, j < tl → ∃ f, V 11 j = nI f ∧ At V f) : TkO m tl 0 K B V (gK_X7_takeTrail K B V, gB_X7_takeTrail K B V, gV_X7_takeTrail K B V) :=
  tkt_loop tl2 mb 2 0 K B V rfl (Nat.zero_le _) h4 h16 (fun j _ q => ha j q)
/-- an absence is not taken along -/
theorem tkt_no {K : OneV} {B : TriV} {V : MemV} {tl : Nat} (h16 : V 0 16 = nI tl) (h1 : tl ≤ 1) (ha : tl = 1 → ∃ e, e < 64 ∧ V 11 0 = nI e ∧ V 1 e = 1 ∧ V 4 e = -1) : gK_X7_takeTrail K B V = K ∧ gB_X7_takeTrail K B V = B ∧ gV_X7_takeTrail K B V = V := by
  have key : lp_X7_takeTrail_2 2 0 K B V = (K, B, V) := by
    by_cases z : tl = 0
    · subst z
      show (if (V 0 16) ≤ (nI 0) then (K, B, V) else _) = _
      rw [if_pos (by rw [h16]; exact Int32.le_refl _)]
    · have t1 : tl = 1 := by omega
      subst t1
      obtain ⟨e, e64, e1, e2, e3⟩ := ha rfl
      have isE := Inv.isE e64 (show ¬ V 1 e = 0 by rw [e2]; exact i10)
      have ab : q_X1_isAbsence V (nI e) = 1 := by
        unfold q_X1_isAbsence
        rw [isE, if_neg i10, ix64 e64, if_pos e3]
      have st : lp_X7_takeTrail_2 1 1 K B V = (K, B, V) := by
        show (if (V 0 16) ≤ (nI 1) then (K, B, V) else _) = _
        rw [if_pos (by rw [h16]; exact Int32.le_refl _)]
      have s2 : lp_X7_takeTrail_2 2 0 K B V = (if (V 0 16) ≤ (nI 0) then (K, B, V) else (if (q_X1_isEntry V (V 11 0)) = 0 then lp_X7_takeTrail_2  1 (0 + 1) K B V else (if (q_X1_isAbsence V (V 11 0)) = 0 then (if (K 0 4) < 0 then lp_X7_takeTrail_2  1 (0 + 1) K B V else (if (25 : Int32) ≤ (K 0 4) then lp_X7_takeTrail_2  1 (0 + 1) K B V else (if (bz (K 0 6)) = 0 then lp_X7_takeTrail_2  1 (0 + 1) (uv K 0 4 ((K 0 4) + 1)) (uv (uv (uv B 0 (ix (K 0 4)) (V 11 0)) 1 (ix (K 0 4)) (V 8 (ix (V 11 0)))) 2 (ix (K 0 4)) (V 6 (ix (V 11 0)))) V else lp_X7_takeTrail_2  1 (0 + 1) (uv K 0 4 ((K 0 4) + 1)) (uv (uv (uv B 0 (ix (K 0 4)) (V 11 0)) 1 (ix (K 0 4)) (V 8 (ix (V 11 0)))) 2 (ix (K 0 4)) (V 6 (ix (V 11 0)))) (gV_X1_hold V (V 11 0))))) else lp_X7_takeTrail_2  1 (0 + 1) K B V))) := rfl
      rw [s2, if_neg (by rw [h16]; exact nI_ge (show 0 < 1 by omega) (by omega)), e1, isE, if_neg i10, ab, if_neg i10]
      exact st
  unfold gK_X7_takeTrail gB_X7_takeTrail gV_X7_takeTrail o_X7_takeTrail
  rw [key]
  exact ⟨rfl, rfl, rfl⟩
/-- another walker in place of one: what holds stays -/
theorem Inv.wset {U : NodV} {V V' : MemV} {H : OneV} {W W' : WkV} {n vol t T : Nat} (i : Inv U V H W n vol t T (fun _ => 0)) {k : Nat} (hk : k < 4) (w1 : ∀ j, j ≠ k → W' j = W j) (y : Nat → Nat) (hy : ∀ f, f < 64 → hcK (W' k) f = hcK (W k) f + y f) (kv : ∀ r : Fin 12, r ≠ 0 → r ≠ 5 → V' r = V r) (k0 : V' 0 11 = V 0 11 ∧ V' 0 12 = V 0 12 ∧ V' 0 14 = V 0 14) (v5 : ∀ f, f < 64 → ¬ V 1 f = 0 → V' 5 f = V 5 f + nI (y f)) (hw : ¬ bz ((W' k).1 0 5) = 0 → ∃ m d l r, r ≤ 3 ∧ WkI V t T (W' k) m d l r) : Inv U V' H W' n vol t T (fun _ => 0) := by
  have hh : ∀ f, f < 64 → hc V' H W' f = hc V H W f + y f := fun f hf => by
    have s := sm_one (a := fun j => hcK (W j) f) (a' := fun j => hcK (W' j) f) (e := k) (n := 4) (k := 0) (Nat.zero_le _) (by omega) (fun j _ _ z => by
      show hcK (W' j) f = hcK (W j) f
      rw [w1 j z])
    have s' : hcW W' f + hcK (W k) f = hcW W f + hcK (W' k) f := s
    rw [hy f hf] at s'
    have c1 : hcC V' f = hcC V f := by
      unfold hcC
      rw [kv 1 (by decide) (by decide), kv 2 (by decide) (by decide)]
    have c2 : hcV V' f = hcV V f := by
      unfold hcV
      rw [kv 10 (by decide) (by decide)]
    unfold hc
    rw [c1, c2]
    omega
  refine i.h5 kv k0 (fun f hf => ?_) i.H (fun j hj q => ?_)
  · obtain ⟨l1, l2, l3⟩ := i.L f hf
    refine ⟨fun _ => rfl, Nat.zero_le _, fun z => ?_⟩
    rw [kv 1 (by decide) (by decide)] at z
    obtain ⟨m1, m2⟩ := l3 z
    simp only [Nat.add_zero] at m1 m2 ⊢
    rw [hh f hf, v5 f hf z, m1, kv 1 (by decide) (by decide)]
    exact ⟨nI_add _ _, fun s => by have := m2 s; omega⟩
  · by_cases z : j = k
    · subst z
      exact hw q
    · rw [w1 j z] at q ⊢
      exact i.W j hj q
theorem WayI.new {V : MemV} {t T : Nat} (z : NumI V t T) {f : Nat} (ha : At V f) (hv : Int32) : WayI V t T hv (nI f) (V 8 f) (V 6 f) := by
  have f0 : ¬ V 1 f = 0 := by rw [ha.2.1]; exact i10
  obtain ⟨b, b1, b2⟩ := z.bi f ha.1 f0
  obtain ⟨c, c1, c2⟩ := z.co f ha.1 f0
  exact ⟨f, ha.1, rfl, ⟨b, c, b1, b2, c1, c2, fun _ _ => ⟨c, c1, Nat.le_refl _, c2, fun _ => ha.2⟩⟩, fun _ => ⟨f0, ha.2.2⟩⟩
theorem hcK_tk {K K' : OneV} {P : RouV} {B B' : TriV} {V V' : MemV} {m tl : Nat} (h4 : K 0 4 = nI m) (mb : m + tl ≤ 25) (o : TkO m tl 0 K B V (K', B', V')) (uw : ¬ bz (K 0 5) = 0) (f : Nat) : hcK (K', P, B') f = hcK (K, P, B) f + if bz (K 0 6) = 0 then 0 else cnt (fun j => decide (V 11 j = nI f)) 0 tl := by
  obtain ⟨o1, o2, o3, o4, o5, o6⟩ := o
  have e5 : bz (K' 0 5) = bz (K 0 5) := congrArg bz (o2 5 (by decide))
  have e6 : bz (K' 0 6) = bz (K 0 6) := congrArg bz (o2 6 (by decide))
  have o1' : K' 0 4 = nI (m + tl) := o1
  show (if bz (K' 0 5) = 0 ∨ bz (K' 0 6) = 0 then 0 else cnt (fun k => decide (B' 0 k = nI f)) 0 (ix (K' 0 4))) = (if bz (K 0 5) = 0 ∨ bz (K 0 6) = 0 then 0 else cnt (fun k => decide (B 0 k = nI f)) 0 (ix (K 0 4))) + _
  rw [e5, e6, o1', h4, ix_nI (by omega), ix_nI (by omega)]
  by_cases hv : bz (K 0 6) = 0
  · rw [if_pos (Or.inr hv), if_pos (Or.inr hv), if_pos hv]
  · rw [if_neg (fun z => z.elim uw hv), if_neg (fun z => z.elim uw hv), if_neg hv, cnt_add, Nat.zero_add]
    have c1 : cnt (fun k => decide (B' 0 k = nI f)) 0 m = cnt (fun k => decide (B 0 k = nI f)) 0 m := cnt_cong (fun j _ hj => by
      have : B' 0 j = B 0 j := o4 0 j (Or.inl (by omega))
      rw [this])
    have c2 : cnt (fun k => decide (B' 0 k = nI f)) m tl = cnt (fun j => decide (V 11 j = nI f)) 0 tl := by
      have := cnt_shift (fun k => decide (B' 0 k = nI f)) m tl 0
      rw [Nat.add_zero] at this
      rw [this]
      refine cnt_cong (fun j _ hj => ?_)
      have : B' 0 (m + j) = V 11 j := by
        have := (o3 (m + j) (by omega) (by omega)).1
        rw [Nat.add_sub_cancel_left] at this
        exact this
      rw [this]
    rw [c1, c2]
/-- a walker that takes its trail along: what holds stays -/
theorem Inv.tk {U : NodV} {V V' : MemV} {H : OneV} {W W' : WkV} {n vol t T : Nat} (i : Inv U V H W n vol t T (fun _ => 0)) {k : Nat} (hk : k < 4) {K K' : OneV} {P : RouV} {B B' : TriV} {m tl d l r : Nat} (wk : W k = (K, P, B)) (w1 : ∀ j, j ≠ k → W' j = W j) (wk' : W' k = (K', P, B')) (wi : m = 0 ∧ d = 0 ∨ 1 ≤ m ∧ m + tl ≤ 1 + 2 * d ∧ ∀ j, j < m → WayI V t T (bz (K 0 6)) (B 0 j) (B 1 j) (B 2 j)) (m1 : 1 ≤ m + tl) (mt : m + tl ≤ 1 + 2 * d) (tl2 : tl ≤ 2) (dl : d ≤ l) (l12 : l ≤ 12) (r3 : r ≤ 3) (h4 : K 0 4 = nI m) (h8 : K 0 8 = nI d) (hl : P 0 1 = nI l) (h7 : K 0 7 = nI r) (uw : ¬ bz (K 0 5) = 0) (ha : ∀ j, j < tl → ∃ f, V 11 j = nI f ∧ At V f) (o : TkO m tl 0 K B V (K', B', V')) : Inv U V' H W' n vol t T (fun _ => 0) ∧ WkI V' t T (W' k) (m + tl) d l r := by
  have o' := o
  obtain ⟨o1, o2, o3, o4, o5, o6⟩ := o
  have mb : m + tl ≤ 25 := by omega
  have e6 : bz (K' 0 6) = bz (K 0 6) := congrArg bz (o2 6 (by decide))
  have old : ∀ j, j < m → WayI V t T (bz (K 0 6)) (B 0 j) (B 1 j) (B 2 j) := by
    rcases wi with ⟨z, _⟩ | ⟨_, _, z⟩
    · intro j hj
      omega
    · exact z
  have wI : WkI V t T (W' k) (m + tl) d l r := by
    rw [wk']
    refine ⟨o1, (o2 8 (by decide)).trans h8, hl, (o2 7 (by decide)).trans h7, m1, mt, dl, l12, r3, fun j hj => ?_⟩
    show WayI V t T (bz (K' 0 6)) (B' 0 j) (B' 1 j) (B' 2 j)
    rw [e6]
    by_cases z : j < m
    · have b0 : B' 0 j = B 0 j := o4 0 j (Or.inl (by omega))
      have b1 : B' 1 j = B 1 j := o4 1 j (Or.inl (by omega))
      have b2 : B' 2 j = B 2 j := o4 2 j (Or.inl (by omega))
      rw [b0, b1, b2]
      exact old j z
    · obtain ⟨f, f1, fa⟩ := ha (j - m) (by omega)
      obtain ⟨b0, b1, b2⟩ := o3 j (by omega) hj
      have b0 : B' 0 j = V 11 (j - m) := b0
      have b1 : B' 1 j = V 8 (ix (V 11 (j - m))) := b1
      have b2 : B' 2 j = V 6 (ix (V 11 (j - m))) := b2
      rw [b0, b1, b2, f1, ix64 fa.1]
      exact WayI.new i.Z fa _
  have kv : ∀ r : Fin 12, r ≠ 5 → V' r = V r := o5
  refine ⟨i.wset hk w1 (fun f => if bz (K 0 6) = 0 then 0 else cnt (fun j => decide (V 11 j = nI f)) 0 tl) (fun f _ => by rw [wk, wk']; exact hcK_tk h4 mb o' uw f) (fun r _ h => kv r h) ⟨by rw [kv 0 (by decide)], by rw [kv 0 (by decide)], by rw [kv 0 (by decide)]⟩ (fun f hf _ => ?_) (fun _ => ⟨_, _, _, _, r3, wI⟩), wI.fr (kv 1 (by decide)) (kv 4 (by decide)) (kv 6 (by decide)) (kv 8 (by decide)) (Nat.le_refl _) (Nat.le_refl _)⟩
  have := o6 f hf
  rw [Nat.sub_zero] at this
  show V' 5 f = _
  rw [show V' 5 f = _ from this]
  by_cases hv : bz (K 0 6) = 0
  · rw [if_pos hv, if_pos hv]
    exact (Int32.add_zero _).symm
  · rw [if_neg hv, if_neg hv]
end
section
/-! A walker changed, on both sides. -/
theorem RelB.dd {U : NodV} {V V' : MemV} {H : OneV} {D D' : RowV} {n : Nat} (b : RelB U V H D n) (hd : ∀ j, j < 17 ∨ 401 ≤ j → D' j = D j) (k : ∀ r : Fin 12, r ≠ 0 → r ≠ 5 → r ≠ 11 → V' r = V r) (h0 : V' 0 11 = V 0 11 ∧ V' 0 12 = V 0 12 ∧ V' 0 13 = V 0 13 ∧ V' 0 14 = V 0 14) : RelB U V' H D' n := by
  have b2 := b.fr k h0
  refine ⟨?_, ?_, ?_, ?_, ?_, ?_, ?_, ?_, ?_, ?_, ?_⟩
  · rw [hd _ (by omega)]; exact b2.tk
  · rw [hd _ (by omega)]; exact b2.lo
  · rw [hd _ (by omega)]; exact b2.tr
  · rw [hd _ (by omega)]; exact b2.rm
  · rw [hd _ (by omega)]; exact b2.ev
  · intro v hv
    rw [hd _ (by omega)]; exact b2.rt v hv
  · intro v hv
    rw [hd _ (by omega)]; exact b2.ov v hv
  · intro j hj
    rw [hd _ (by omega)]; exact b2.ha j hj
  · intro j hj
    rw [hd _ (by omega), hd _ (by omega), hd _ (by omega), hd _ (by omega), hd _ (by omega)]; exact b2.nd j hj
  · intro f hf
    rw [hd _ (by omega)]; exact b2.th f hf
  · intro f hf q
    rw [hd _ (by omega), hd _ (by omega), hd _ (by omega), hd _ (by omega), hd _ (by omega), hd _ (by omega), hd _ (by omega), hd _ (by omega)]; exact b2.en f hf q
theorem RelK.dd {w : OneV × RouV × TriV} {D D' : RowV} {j : Nat} (h : RelK w D j) (hd : ∀ i, i < 96 → D' (17 + 96 * j + i) = D (17 + 96 * j + i)) : RelK w D' j := by
  obtain ⟨c1, c2, c3, c4⟩ := h
  refine ⟨by rw [hd _ (by omega)]; exact c1, fun q => ?_, fun q i hi h2 => ?_, fun q i hi h2 => ?_⟩
  · rw [hd _ (by omega), hd _ (by omega), hd _ (by omega), hd _ (by omega)]; exact c2 q
  · rw [hd _ (by omega)]; exact c3 q i hi h2
  · rw [hd _ (by omega), hd _ (by omega), hd _ (by omega)]; exact c4 q i hi h2
/-- the walker k stands otherwise, and goes -/
theorem Rel.wch {wk : Option Nat} {U : NodV} {V V' : MemV} {H : OneV} {W W' : WkV} {D D' : RowV} {n : Nat} (r : Rel wk U V H W D n) {k : Nat} (k4 : k < 4) (hwk : wk = none ∨ wk = some k) (b : RelB U V' H D' n) (hD : ∀ j, 17 ≤ j → j < 401 → (j < 17 + 96 * k ∨ 17 + 96 * k + 96 ≤ j) → D' j = D j) (w1 : ∀ j, j ≠ k → W' j = W j) (hK : RelK (W' k) D' k) (hT : ∃ m tl, RelT (W' k) V' D' k m tl) : Rel (some k) U V' H W' D' n := by
  have oj : ∀ j, j < 4 → j ≠ k → ∀ i, i < 96 → D' (17 + 96 * j + i) = D (17 + 96 * j + i) := fun j j4 jk i hi => hD _ (by omega) (by omega) (by omega)
  refine ⟨b, fun j hj => ?_, fun j hj q z => ?_, fun j z => ?_⟩
  · by_cases jk : j = k
    · subst jk
      exact hK
    · rw [w1 j jk]
      exact (r.K j hj).dd (oj j hj jk)
  · have jk : j ≠ k := fun y => z (by rw [y])
    rw [w1 j jk] at q ⊢
    have nk : wk ≠ some j := by
      rcases hwk with y | y
      · rw [y]; exact fun x => by cases x
      · rw [y]; exact fun x => jk (by cases x; rfl)
    exact ⟨by rw [oj j hj jk 5 (by decide)]; exact r.M j hj q nk, r.R2 j hj q nk⟩
  · cases z
    exact ⟨k4, hT⟩
/-- the walker k stands otherwise, and rests -/
theorem Rel.wno {wk : Option Nat} {U : NodV} {V V' : MemV} {H : OneV} {W W' : WkV} {D D' : RowV} {n : Nat} (r : Rel wk U V H W D n) {k : Nat} (k4 : k < 4) (hwk : wk = none ∨ wk = some k) (b : RelB U V' H D' n) (hD : ∀ j, 17 ≤ j → j < 401 → (j < 17 + 96 * k ∨ 17 + 96 * k + 96 ≤ j) → D' j = D j) (w1 : ∀ j, j ≠ k → W' j = W j) (hK : RelK (W' k) D' k) (hT : ¬ bz ((W' k).1 0 5) = 0 → D' (17 + 96 * k + 5) = (W' k).1 0 4 ∧ ∃ r, r ≤ 2 ∧ (W' k).1 0 7 = nI r) : Rel none U V' H W' D' n := by
  have oj : ∀ j, j < 4 → j ≠ k → ∀ i, i < 96 → D' (17 + 96 * j + i) = D (17 + 96 * j + i) := fun j j4 jk i hi => hD _ (by omega) (by omega) (by omega)
  refine ⟨b, fun j hj => ?_, fun j hj q z => ?_, fun j z => by cases z⟩
  · by_cases jk : j = k
    · subst jk
      exact hK
    · rw [w1 j jk]
      exact (r.K j hj).dd (oj j hj jk)
  · by_cases jk : j = k
    · subst jk
      exact hT q
    · rw [w1 j jk] at q ⊢
      have nk : wk ≠ some j := by
        rcases hwk with y | y
        · rw [y]; exact fun x => by cases x
        · rw [y]; exact fun x => jk (by cases x; rfl)
      exact ⟨by rw [oj j hj jk 5 (by decide)]; exact r.M j hj q nk, r.R2 j hj q nk⟩
/-- a walker that has stopped -/
theorem Rel.wover {wk : Option Nat} {U : NodV} {V : MemV} {H : OneV} {W W' : WkV} {D D' : RowV} {n : Nat} (r : Rel wk U V H W D n) {k : Nat} (k4 : k < 4) (hwk : wk = none ∨ wk = some k) (hD : ∀ j, (j < 17 + 96 * k ∨ 17 + 96 * k + 96 ≤ j) → D' j = D j) (h0 : D' (17 + 96 * k + 0) = 0) (w1 : ∀ j, j ≠ k → W' j = W j) (w0 : bz ((W' k).1 0 5) = 0) : Rel none U V H W' D' n :=
  r.wno k4 hwk (r.B.dd (fun j q => hD j (by omega)) (fun _ _ _ _ => rfl) ⟨rfl, rfl, rfl, rfl⟩) (fun j _ _ q => hD j q) w1 ⟨by rw [h0, w0], fun q => absurd w0 q, fun q => absurd w0 q, fun q => absurd w0 q⟩ (fun q => absurd w0 q)
theorem tz_sym (V : MemV) : (∀ r : Fin 12, r ≠ 0 → r ≠ 5 → r ≠ 11 → V r = tz V r) ∧ V 0 11 = tz V 0 11 ∧ V 0 12 = tz V 0 12 ∧ V 0 13 = tz V 0 13 ∧ V 0 14 = tz V 0 14 :=
  ⟨fun r h _ _ => (tz_k V r h).symm, (tz_0 V (by decide)).symm, (tz_0 V (by decide)).symm, (tz_0 V (by decide)).symm, (tz_0 V (by decide)).symm⟩
theorem Rel.mid {U : NodV} {V : MemV} {H : OneV} {W : WkV} {D : RowV} {n : Nat} (r : Rel none U V H W D n) {k m : Nat} (k4 : k < 4) (uw : ¬ bz ((W k).1 0 5) = 0) (hm : (W k).1 0 4 = nI m) (m25 : m ≤ 25) : Rel (some k) U (tz V) H W D n :=
  r.wch k4 (Or.inl rfl) r.tzi.B (fun _ _ _ _ => rfl) (fun _ _ => rfl) (r.K k k4) ⟨m, 0, uw, hm, tz_16 V, by omega, by omega, by rw [r.M k k4 uw (fun z => by cases z)]; exact hm, fun j hj => by omega⟩
theorem Rel.rest {U : NodV} {V : MemV} {H : OneV} {W : WkV} {D : RowV} {n : Nat} {k : Nat} (r : Rel (some k) U (tz V) H W D n) (r2 : ∃ r, r ≤ 2 ∧ (W k).1 0 7 = nI r) : Rel none U V H W D n := by
  obtain ⟨k4, m, tl, t1, t2, t3, t4, t5, t6, _⟩ := r.T k rfl
  have z : tl = 0 := (nI_eq (by omega) (by omega)).mp (t3.symm.trans (tz_16 V))
  subst z
  refine r.wno k4 (Or.inr rfl) (r.B.fr (tz_sym V).1 (tz_sym V).2) (fun _ _ _ _ => rfl) (fun _ _ => rfl) (r.K k k4) (fun _ => ⟨?_, r2⟩)
  rw [t6, t2]
  rfl
/-- the trail is taken along -/
theorem Rel.tk {U : NodV} {V V' : MemV} {H : OneV} {W W' : WkV} {D : RowV} {n k : Nat} (r : Rel (some k) U V H W D n) {K K' : OneV} {P : RouV} {B B' : TriV} {m tl : Nat} (wk : W k = (K, P, B)) (w1 : ∀ j, j ≠ k → W' j = W j) (wk' : W' k = (K', P, B')) (h4 : K 0 4 = nI m) (h16 : V 0 16 = nI tl) (tl2 : tl ≤ 2) (mb : m + tl ≤ 25) (o : TkO m tl 0 K B V (K', B', V')) : Rel (some k) U (tz V') H W' D n := by
  obtain ⟨o1, o2, o3, o4, o5, o6⟩ := o
  have kv : ∀ r : Fin 12, r ≠ 5 → V' r = V r := o5
  obtain ⟨k4, m', tl', t1, t2, t3, t4, t5, t6, t7⟩ := r.T k rfl
  rw [wk] at t2
  have mm : m' = m := (nI_eq (by omega) (by omega)).mp (t2.symm.trans h4)
  have tt : tl' = tl := (nI_eq (by omega) (by omega)).mp (t3.symm.trans h16)
  subst mm tt
  obtain ⟨c1, c2, c3, c4⟩ := r.K k k4
  rw [wk] at c1 c2 c3 c4 t1
  have e5 : K' 0 5 = K 0 5 := o2 5 (by decide)
  have e6 : K' 0 6 = K 0 6 := o2 6 (by decide)
  have e7 : K' 0 7 = K 0 7 := o2 7 (by decide)
  have e8 : K' 0 8 = K 0 8 := o2 8 (by decide)
  have o1' : K' 0 4 = nI (m' + tl') := o1
  refine r.wch k4 (Or.inr rfl) (r.B.dd (fun _ _ => rfl) (fun q h0 h5 _ => by rw [tz_k V' q h0]; exact kv q h5) ⟨?_, ?_, ?_, ?_⟩) (fun _ _ _ _ => rfl) w1 ?_ ⟨m' + tl', 0, ?_, ?_, tz_16 V', by omega, by omega, ?_, fun j hj => by omega⟩
  · rw [tz_0 V' (by decide), kv 0 (by decide)]
  · rw [tz_0 V' (by decide), kv 0 (by decide)]
  · rw [tz_0 V' (by decide), kv 0 (by decide)]
  · rw [tz_0 V' (by decide), kv 0 (by decide)]
  · rw [wk']
    refine ⟨?_, fun q => ?_, fun q => ?_, fun q j hj h2 => ?_⟩
    · show D (17 + 96 * k + 0) = bz (K' 0 5)
      rw [e5]; exact c1
    · have q : ¬ bz (K' 0 5) = 0 := q
      rw [e5] at q
      have := c2 q
      show D (17 + 96 * k + 1) = bz (K' 0 6) ∧ D (17 + 96 * k + 2) = K' 0 7 ∧ D (17 + 96 * k + 3) = K' 0 8 ∧ D (17 + 96 * k + 4) = P 0 1
      rw [e6, e7, e8]
      exact this
    · have q : ¬ bz (K' 0 5) = 0 := q
      rw [e5] at q
      exact c3 q
    · have q : ¬ bz (K' 0 5) = 0 := q
      rw [e5] at q
      have h2 : j < ix (K' 0 4) := h2
      rw [o1', ix_nI (by omega)] at h2
      by_cases z : j < m'
      · have b0 : B' 0 j = B 0 j := o4 0 j (Or.inl (by omega))
        have b1 : B' 1 j = B 1 j := o4 1 j (Or.inl (by omega))
        have b2 : B' 2 j = B 2 j := o4 2 j (Or.inl (by omega))
        show D (17 + 96 * k + (18 + 3 * j)) = B' 0 j ∧ D (17 + 96 * k + (18 + 3 * j + 1)) = B' 1 j ∧ D (17 + 96 * k + (18 + 3 * j + 2)) = B' 2 j
        rw [b0, b1, b2]
        exact c4 q j hj (by show j < ix (K 0 4); rw [h4, ix_nI (by omega)]; exact z)
      · obtain ⟨e, e1, e2, e3, e4, e5⟩ := t7 (j - m') (by omega)
        rw [show m' + (j - m') = j by omega] at e3 e4 e5
        obtain ⟨b0, b1, b2⟩ := o3 j (by omega) h2
        have b0 : B' 0 j = V 11 (j - m') := b0
        have b1 : B' 1 j = V 8 (ix (V 11 (j - m'))) := b1
        have b2 : B' 2 j = V 6 (ix (V 11 (j - m'))) := b2
        show D (17 + 96 * k + (18 + 3 * j)) = B' 0 j ∧ D (17 + 96 * k + (18 + 3 * j + 1)) = B' 1 j ∧ D (17 + 96 * k + (18 + 3 * j + 2)) = B' 2 j
        rw [b0, b1, b2, e2, ix64 e1]
        exact ⟨e3, e4, e5⟩
  · rw [wk']
    show ¬ bz (K' 0 5) = 0
    rw [e5]; exact t1
  · rw [wk']; exact o1
  · exact t6
/-- how far a walker has come -/
theorem Rel.set3 {U : NodV} {V : MemV} {H : OneV} {W W' : WkV} {D : RowV} {n k : Nat} (r : Rel (some k) U V H W D n) {K : OneV} {P : RouV} {B : TriV} (wk : W k = (K, P, B)) (v : Int32) (w1 : ∀ j, j ≠ k → W' j = W j) (wk' : W' k = (uv K 0 8 v, P, B)) : Rel (some k) U V H W' (sD D (17 + 96 * k + 3) v) n := by
  obtain ⟨k4, m, tl, t1, t2, t3, t4, t5, t6, t7⟩ := r.T k rfl
  obtain ⟨c1, c2, c3, c4⟩ := r.K k k4
  rw [wk] at c1 c2 c3 c4 t1 t2
  have o : ∀ j, j ≠ 17 + 96 * k + 3 → sD D (17 + 96 * k + 3) v j = D j := fun j q => sD_n _ _ q
  have kj : ∀ j, j ≠ 8 → uv K 0 8 v 0 j = K 0 j := fun j q => uv_n _ _ _ _ _ _ (fun w => q w.2)
  have k5 : bz (uv K 0 8 v 0 5) = bz (K 0 5) := by rw [kj 5 (by decide)]
  refine r.wch k4 (Or.inr rfl) (r.B.dd (fun j q => o j (by omega)) (fun _ _ _ _ => rfl) ⟨rfl, rfl, rfl, rfl⟩) (fun j _ _ q => o j (by omega)) w1 ?_ ⟨m, tl, ?_, ?_, t3, t4, t5, ?_, fun j hj => ?_⟩
  · rw [wk']
    refine ⟨?_, fun q => ?_, fun q j hj h2 => ?_, fun q j hj h2 => ?_⟩
    · show sD D (17 + 96 * k + 3) v (17 + 96 * k + 0) = bz (uv K 0 8 v 0 5)
      rw [o _ (by omega), k5]; exact c1
    · have q : ¬ bz (uv K 0 8 v 0 5) = 0 := q
      rw [k5] at q
      obtain ⟨a1, a2, a3, a4⟩ := c2 q
      show sD D (17 + 96 * k + 3) v (17 + 96 * k + 1) = bz (uv K 0 8 v 0 6) ∧ sD D (17 + 96 * k + 3) v (17 + 96 * k + 2) = uv K 0 8 v 0 7 ∧ sD D (17 + 96 * k + 3) v (17 + 96 * k + 3) = uv K 0 8 v 0 8 ∧ sD D (17 + 96 * k + 3) v (17 + 96 * k + 4) = P 0 1
      rw [o _ (by omega), o _ (by omega), o (17 + 96 * k + 4) (by omega), sD_s, uv_s, kj 6 (by decide), kj 7 (by decide)]
      exact ⟨a1, a2, rfl, a4⟩
    · have q : ¬ bz (uv K 0 8 v 0 5) = 0 := q
      rw [k5] at q
      rw [o _ (by omega)]
      exact c3 q j hj h2
    · have q : ¬ bz (uv K 0 8 v 0 5) = 0 := q
      rw [k5] at q
      have h2 : j < ix (uv K 0 8 v 0 4) := h2
      rw [kj 4 (by decide)] at h2
      rw [o _ (by omega), o _ (by omega), o _ (by omega)]
      exact c4 q j hj h2
  · rw [wk']
    show ¬ bz (uv K 0 8 v 0 5) = 0
    rw [k5]; exact t1
  · rw [wk']
    show uv K 0 8 v 0 4 = nI m
    rw [kj 4 (by decide)]; exact t2
  · rw [o _ (by omega)]; exact t6
  · rw [o _ (by omega), o _ (by omega), o _ (by omega)]; exact t7 j hj
end
section
/-! One step of a walker, on both sides. -/
theorem WkI.uniq {V V1 : MemV} {t t1 T T1 : Nat} {w : OneV × RouV × TriV} {m d l r m2 d2 l2 r2 : Nat} (h : WkI V t T w m d l r) (g : WkI V1 t1 T1 w m2 d2 l2 r2) : m2 = m ∧ d2 = d ∧ l2 = l ∧ r2 = r := by
  have a1 := h.md
  have a2 := h.dl
  have a3 := h.l12
  have a4 := h.r3
  have b1 := g.md
  have b2 := g.dl
  have b3 := g.l12
  have b4 := g.r3
  exact ⟨(nI_eq (by omega) (by omega)).mp (g.m.symm.trans h.m), (nI_eq (by omega) (by omega)).mp (g.d.symm.trans h.d), (nI_eq (by omega) (by omega)).mp (g.l.symm.trans h.l), (nI_eq (by omega) (by omega)).mp (g.r.symm.trans h.r)⟩
theorem m1_18 {m : Nat} (h : 1 ≤ m) : (18 : Int32) + 3 * (nI m - 1) = nI (18 + 3 * (m - 1)) := by
  rw [show nI m - 1 = nI (m - 1) from nI_sub (b := 1) (by omega), show (18 : Int32) = nI 18 from rfl, show (3 : Int32) = nI 3 from rfl, nI_mul, nI_add]
theorem rF_21 (I : MI) (D G : RowV) (c v : Int32) : up2 (rF I D G c) 188 21 v = rF (up2 I 188 21 v) D G c := rF_so I D G c v (by decide) (by decide) (by decide)
theorem up2_21 {I : MI} {v : Int32} (h : I 188 21 = -1) : up2 (up2 I 188 21 v) 188 21 (-1) = I := by
  funext x j
  unfold up2
  by_cases q : x = 188 ∧ j = 21
  · rw [if_pos q, q.1, q.2, h]
  · rw [if_neg q, if_neg q]
theorem Rel.does {U : NodV} {V : MemV} {H : OneV} {W : WkV} {D : RowV} {n vol t T k : Nat} (r : Rel (some k) U (tz V) H W D n) (i : Inv U V H W n vol t T (fun _ => 0)) (C : CntI V) {J : MJ} (h : RefL J) (I : MI) (hb : I 188 20 = -1) (hw21 : I 188 21 = -1) (G : RowV) (c : Int32) {K : OneV} {P : RouV} {B : TriV} {m d l rr : Nat} (wk : W k = (K, P, B)) (wi : WkI V t T (K, P, B) m d l rr) (dl : d < l) {a : Nat} (ha : At V a) (last : B 0 (m - 1) = nI a) (tT : t + 2 ≤ T) : ∃ D' G' c' how t' K' B' V', M_X10_doesStep [mR (some 188), mI (nI k)] (rF I D G c, J) = some (some (mI how), (rF I D' G' c', J)) ∧ t ≤ t' ∧ t' ≤ t + 2 ∧ (K' = gK_X7_takeTrail (uv K 0 8 (K 0 8 + 1)) B (gV_X1_stepFrom U V (nI a) (q_X4_stepAt 12 P (K 0 8))) ∧ B' = gB_X7_takeTrail (uv K 0 8 (K 0 8 + 1)) B (gV_X1_stepFrom U V (nI a) (q_X4_stepAt 12 P (K 0 8))) ∧ V' = gV_X7_takeTrail (uv K 0 8 (K 0 8 + 1)) B (gV_X1_stepFrom U V (nI a) (q_X4_stepAt 12 P (K 0 8)))) ∧ Inv U V' H (wkS W k (K', P, B')) n vol t' T (fun _ => 0) ∧ CntI V' ∧ (K' 0 5 = K 0 5 ∧ K' 0 6 = K 0 6 ∧ K' 0 7 = K 0 7 ∧ K' 0 8 = nI (d + 1)) ∧ ((how = 0 ∧ ∃ a' m', q_X1_stepFrom U V (nI a) (q_X4_stepAt 12 P (K 0 8)) = nI a' ∧ At V' a' ∧ WkI V' t' T (K', P, B') m' (d + 1) l rr ∧ B' 0 (m' - 1) = nI a' ∧ Rel (some k) U (tz V') H (wkS W k (K', P, B')) D' n) ∨ ((how = -2 ∨ how = -3) ∧ q_X1_stepFrom U V (nI a) (q_X4_stepAt 12 P (K 0 8)) = how ∧ WkI V' t' T (K', P, B') m (d + 1) l rr ∧ (∃ m', 1 ≤ m' ∧ m' ≤ 25 ∧ D' (17 + 96 * k + 5) = nI m') ∧ Rel (some k) U V' H (wkS W k (K', P, B')) D' n)) := by
  have b1 := wi.md
  have b2 := wi.dl
  have b3 := wi.l12
  have b4 := wi.m1
  have e8 : K 0 8 = nI d := wi.d
  have e4 : K 0 4 = nI m := wi.m
  obtain ⟨k4, m', tl', t1, t2, t3, t4, t5, t6, _⟩ := r.T k rfl
  have z : tl' = 0 := (nI_eq (by omega) (by omega)).mp (t3.symm.trans (tz_16 V))
  subst z
  rw [wk] at t1 t2
  have mm : m' = m := (nI_eq (by omega) (by omega)).mp (t2.symm.trans e4)
  subst mm
  have rk := r.K k k4
  rw [wk] at rk
  have un := rk.un t1
  have el : P 0 1 = nI l := wi.l
  have sp := rk.sp t1 d (by omega) (by show d < ix (P 0 1); rw [el, ix_nI (by omega)]; exact dl)
  have wy := rk.wy t1 (m' - 1) (by omega) (by show m' - 1 < ix (K 0 4); rw [e4, ix_nI (by omega)]; omega)
  have sa : q_X4_stepAt 12 P (K 0 8) = P 1 d := by rw [e8]; exact stepAt_k el dl (by omega) (by decide)
  rw [sa]
  have ht : TlI (some k) (tz V) W 0 := fun j q => by
    cases q
    exact ⟨tz_16 V, m', by rw [wk]; exact e4, by omega⟩
  obtain ⟨D1, G1, c1, how, t', tl, s1, s2, s3, s4, s5⟩ := r.steps0 i C (fun e _ q => absurd rfl q) h (up2 I 188 21 (nI k)) (Or.inl ⟨by rw [up2_k _ _ _ (by decide)]; exact hb, fun _ => rfl⟩) (by rw [up2_s]; rfl) G ht ha sp tT
  obtain ⟨q1, q2, q3, q4, q9, q10, q11, _⟩ := s2
  generalize hV1 : gV_X1_stepFrom U V (nI a) (P 1 d) = V1 at q1 q2 q3 q4 q9 q10 q11 s5
  generalize q_X1_stepFrom U V (nI a) (P 1 d) = qq at s5
  have un1 := (by have := (q1.K k k4).un; rw [wk] at this; exact this t1 : D1 (17 + 96 * k + 1) = bz (K 0 6) ∧ D1 (17 + 96 * k + 2) = K 0 7 ∧ D1 (17 + 96 * k + 3) = K 0 8 ∧ D1 (17 + 96 * k + 4) = P 0 1)
  have ev : M_X10_doesStep [mR (some 188), mI (nI k)] (rF I D G c, J) = some (some (mI how), (rF I (sD D1 (17 + 96 * k + 3) (nI (d + 1))) G1 c1, J)) := by
    rw [E_X10_doesStep]
    have nh : ∀ f, f < 96 → ∀ (z : Int32) (X : MI) , z = nI f → M_X10_walkerHas [mR (some 188), mI (nI k), mI z] (X, J) = some (some (mI (X 194 (17 + 96 * k + f))), (X, J)) := fun f hf z X hz => w_walkerHas h X f hz k4 hf
    have dm : D (17 + 96 * k + 5) = nI m' := t6
    have dd3 : D (17 + 96 * k + 3) = nI d := un.2.2.1.trans e8
    have dla : D (17 + 96 * k + (18 + 3 * (m' - 1))) = nI a := wy.1.trans last
    have e6 : (6 : Int32) + nI d = nI (6 + d) := nI_add 6 d
    simp only [h.kt, if_true, nh 5 (by decide) 5 _ rfl, Option.bind_some, asI_I, rF_D, dm, nh (18 + 3 * (m' - 1)) (by omega) _ _ (m1_18 b4), dla, h.wi, rF_sc, rF_21, E_X10_nextStep, nh 3 (by decide) 3 _ rfl, dd3, nh (6 + d) (by omega) _ _ e6, s1, up2_21 hw21, h.f18, w_walkerAt _ k 3 (show (3 : Int32) = nI 3 from rfl), h.ldD _ (show nI (17 + 96 * k + 3) = nI (17 + 96 * k + 3) from rfl) (show 17 + 96 * k + 3 < 1853 by omega), h.stD _ _ (show nI (17 + 96 * k + 3) = nI (17 + 96 * k + 3) from rfl) (show 17 + 96 * k + 3 < 1853 by omega), un1.2.2.1, e8, nI_1, rF_sD]
  have e8' : K 0 8 + 1 = nI (d + 1) := by rw [e8, nI_1]
  rw [e8']
  have kj : ∀ j, j ≠ 8 → uv K 0 8 (nI (d + 1)) 0 j = K 0 j := fun j q => uv_n _ _ _ _ _ _ (fun w => q w.2)
  obtain ⟨m2, d2, l2, r2, _, w2⟩ := q2.W k k4 (by rw [wk]; exact t1)
  rw [wk] at w2
  obtain ⟨u1, u2, u3, u4⟩ := wi.uniq w2
  subst u1 u2 u3 u4
  have wk2 : WkI V1 t' T (uv K 0 8 (nI (d2 + 1)), P, B) m2 (d2 + 1) l2 r2 := ⟨(kj 4 (by decide)).trans w2.m, uv_s K 0 8 (nI (d2 + 1)), w2.l, (kj 7 (by decide)).trans w2.r, w2.m1, by omega, by omega, w2.l12, w2.r3, fun j hj => by
    have := w2.wy j hj
    show WayI V1 t' T (bz (uv K 0 8 (nI (d2 + 1)) 0 6)) (B 0 j) (B 1 j) (B 2 j)
    rw [kj 6 (by decide)]
    exact this⟩
  have w1 : ∀ (x : OneV × RouV × TriV) j, j ≠ k → wkS W k x j = W j := fun x j q => wkS_n W x q
  have i2 : Inv U V1 H (wkS W k (uv K 0 8 (nI (d2 + 1)), P, B)) n vol t' T (fun _ => 0) := q2.wset k4 (w1 _) (fun _ => 0) (fun f _ => by
      rw [wkS_s, wk]
      show (if bz (uv K 0 8 (nI (d2 + 1)) 0 5) = 0 ∨ bz (uv K 0 8 (nI (d2 + 1)) 0 6) = 0 then 0 else cnt (fun k => decide (B 0 k = nI f)) 0 (ix (uv K 0 8 (nI (d2 + 1)) 0 4))) = hcK (K, P, B) f
      rw [kj 5 (by decide), kj 6 (by decide), kj 4 (by decide)]
      rfl) (fun _ _ _ => rfl) ⟨rfl, rfl, rfl⟩ (fun f _ _ => (Int32.add_zero _).symm) (fun _ => ⟨m2, d2 + 1, l2, r2, w2.r3, by rw [wkS_s]; exact wk2⟩)
  have r2' := q1.set3 wk (nI (d2 + 1)) (w1 _) (wkS_s W k (uv K 0 8 (nI (d2 + 1)), P, B))
  refine ⟨sD D1 (17 + 96 * k + 3) (nI (d2 + 1)), G1, c1, how, t', _, _, _, ev, s3, s4, ⟨rfl, rfl, rfl⟩, ?_⟩
  have k14 : (uv K 0 8 (nI (d2 + 1))) 0 4 = nI m2 := (kj 4 (by decide)).trans e4
  rcases s5 with ⟨h0, a', ca, qa, at', trl⟩ | over
  · obtain ⟨r16, rtl2, rz, rp, ra⟩ := trl
    have mb : m2 + tl ≤ 25 := by omega
    have o := tkt_all (K := uv K 0 8 (nI (d2 + 1))) (B := B) rtl2 mb k14 r16 ra
    generalize gK_X7_takeTrail (uv K 0 8 (nI (d2 + 1))) B V1 = K' at o ⊢
    generalize gB_X7_takeTrail (uv K 0 8 (nI (d2 + 1))) B V1 = B' at o ⊢
    generalize gV_X7_takeTrail (uv K 0 8 (nI (d2 + 1))) B V1 = V' at o ⊢
    have kv : ∀ r : Fin 12, r ≠ 5 → V' r = V1 r := o.2.2.2.2.1
    obtain ⟨i3, w3⟩ := i2.tk (W' := wkS W k (K', P, B')) k4 (wkS_s W k _) (fun j q => by rw [w1 _ j q, w1 _ j q]) (wkS_s W k _) (d := d2 + 1) (l := l2) (r := r2) (Or.inr ⟨b4, by omega, wk2.wy⟩) (by omega) (by omega) rtl2 (by omega) b3 wi.r3 k14 (uv_s _ _ _ _) el ((kj 7 (by decide)).trans wi.r) (by rw [kj 5 (by decide)]; exact t1) ra o
    rw [wkS_s] at w3
    refine ⟨i3, q3.fr (kv 1 (by decide)) (kv 9 (by decide)), ⟨(o.2.1 5 (by decide)).trans (kj 5 (by decide)), (o.2.1 6 (by decide)).trans (kj 6 (by decide)), (o.2.1 7 (by decide)).trans (kj 7 (by decide)), (o.2.1 8 (by decide)).trans (uv_s _ _ _ _)⟩, Or.inl ⟨h0, a', m2 + tl, qa, ⟨at'.1, by rw [kv 1 (by decide)]; exact at'.2.1, by rw [kv 4 (by decide)]; exact at'.2.2⟩, w3, ?_, r2'.tk (wkS_s W k _) (fun j q => by rw [w1 _ j q, w1 _ j q]) (wkS_s W k _) k14 r16 rtl2 mb o⟩⟩
    by_cases z : tl = 0
    · have := o.2.2.2.1 0 (m2 + tl - 1) (Or.inl (by omega))
      rw [show B' 0 (m2 + tl - 1) = B 0 (m2 + tl - 1) from this, z, Nat.add_zero, last, rz z]
    · have := (o.2.2.1 (m2 + tl - 1) (by omega) (by omega)).1
      rw [show B' 0 (m2 + tl - 1) = V1 11 (m2 + tl - 1 - m2) from this, show m2 + tl - 1 - m2 = tl - 1 by omega, rp (by omega)]
  · have hh : (how = -2 ∨ how = -3) ∧ qq = how ∧ V1 0 16 = nI tl ∧ tl ≤ 1 ∧ (tl = 1 → ∃ e, e < 64 ∧ V1 11 0 = nI e ∧ V1 1 e = 1 ∧ V1 4 e = -1) := by
      rcases over with ⟨x1, x2, x3, x4, x5⟩ | ⟨x1, x2, x3, x4⟩
      · exact ⟨Or.inl x1, x2.trans x1.symm, by rw [x3]; exact x4, by omega, fun _ => x5⟩
      · exact ⟨Or.inr x1, x2.trans x1.symm, by rw [x3]; exact x4, by omega, fun z => by omega⟩
    obtain ⟨y1, y2, y3, y4, y5⟩ := hh
    obtain ⟨z1, z2, z3⟩ := tkt_no (K := uv K 0 8 (nI (d2 + 1))) (B := B) y3 y4 y5
    rw [z1, z2, z3]
    obtain ⟨_, m3, tl3, a1, a2, a3, a4, a5, a6, _⟩ := r2'.T k rfl
    rw [wkS_s] at a2
    have m33 : m3 = m2 := (nI_eq (by omega) (by omega)).mp (a2.symm.trans k14)
    exact ⟨i2, q3, ⟨kj 5 (by decide), kj 6 (by decide), kj 7 (by decide), uv_s _ _ _ _⟩, Or.inr ⟨y1, y2, wk2, ⟨m3 + tl3, by omega, a5, a6⟩, r2'⟩⟩
end
section
/-! A walk that begins, on both sides. -/
theorem Inv.wnew {U : NodV} {V V' : MemV} {H : OneV} {W W' : WkV} {n vol t T : Nat} (i : Inv U V H W n vol t T (fun _ => 0)) {k : Nat} (hk : k < 4) (w0 : bz ((W k).1 0 5) = 0) {K1 K' : OneV} {P : RouV} {B B' : TriV} {l r ro : Nat} (w1 : ∀ j, j ≠ k → W' j = W j) (wk' : W' k = (K', P, B')) (l12 : l ≤ 12) (r3 : r ≤ 3) (h4 : K1 0 4 = nI 0) (h8 : K1 0 8 = nI 0) (hl : P 0 1 = nI l) (h7 : K1 0 7 = nI r) (uw : ¬ bz (K1 0 5) = 0) (h11 : V 11 0 = nI ro) (ra : At V ro) (o : TkO 0 1 0 K1 B V (K', B', V')) : Inv U V' H W' n vol t T (fun _ => 0) ∧ WkI V' t T (W' k) 1 0 l r ∧ B' 0 0 = nI ro := by
  have o' := o
  obtain ⟨o1, o2, o3, o4, o5, o6⟩ := o
  have e6 : bz (K' 0 6) = bz (K1 0 6) := congrArg bz (o2 6 (by decide))
  obtain ⟨b0, b1, b2⟩ := o3 0 (by omega) (by omega)
  have b0 : B' 0 0 = V 11 0 := b0
  have b1 : B' 1 0 = V 8 (ix (V 11 0)) := b1
  have b2 : B' 2 0 = V 6 (ix (V 11 0)) := b2
  have wI : WkI V t T (W' k) 1 0 l r := by
    rw [wk']
    refine ⟨o1, (o2 8 (by decide)).trans h8, hl, (o2 7 (by decide)).trans h7, by omega, by omega, by omega, l12, r3, fun j hj => ?_⟩
    have : j = 0 := by omega
    subst this
    show WayI V t T (bz (K' 0 6)) (B' 0 0) (B' 1 0) (B' 2 0)
    rw [b0, b1, b2, h11, ix64 ra.1]
    exact WayI.new i.Z ra _
  have kv : ∀ r : Fin 12, r ≠ 5 → V' r = V r := o5
  refine ⟨i.wset hk w1 (fun f => if bz (K1 0 6) = 0 then 0 else cnt (fun j => decide (V 11 j = nI f)) 0 1) (fun f _ => ?_) (fun r _ h => kv r h) ⟨by rw [kv 0 (by decide)], by rw [kv 0 (by decide)], by rw [kv 0 (by decide)]⟩ (fun f hf _ => ?_) (fun _ => ⟨_, _, _, _, r3, wI⟩), wI.fr (kv 1 (by decide)) (kv 4 (by decide)) (kv 6 (by decide)) (kv 8 (by decide)) (Nat.le_refl _) (Nat.le_refl _), by rw [b0]; exact h11⟩
  · rw [wk', hcK_tk (m := 0) h4 (by omega) o' uw f]
    have z1 : hcK (W k) f = 0 := by
      unfold hcK
      rw [if_pos (Or.inl w0)]
    have z2 : hcK (K1, P, B) f = 0 := by
      show (if bz (K1 0 5) = 0 ∨ bz (K1 0 6) = 0 then 0 else cnt (fun k => decide (B 0 k = nI f)) 0 (ix (K1 0 4))) = 0
      rw [h4, show ix (nI 0) = 0 from rfl]
      show (if bz (K1 0 5) = 0 ∨ bz (K1 0 6) = 0 then 0 else 0) = 0
      rw [ite_self]
    rw [z1, z2]
  · have := o6 f hf
    rw [Nat.sub_zero] at this
    rw [show V' 5 f = _ from this]
    by_cases hv : bz (K1 0 6) = 0
    · rw [if_pos hv, if_pos hv]
      exact (Int32.add_zero _).symm
    · rw [if_neg hv, if_neg hv]
theorem Rel.begW {U : NodV} {V : MemV} {H : OneV} {W : WkV} {D : RowV} {n k : Nat} (r : Rel (some k) U (tz V) H W (sD (sD D (17 + 96 * k + 5) 0) (17 + 96 * k + 3) 0) n) (n60 : n ≤ 60) {J : MJ} (h : RefL J) (I : MI) (hw21 : I 188 21 = -1) (G : RowV) (c : Int32) (hm : (W k).1 0 4 = nI 0) {ro : Nat} (hr : V 9 0 = nI ro) (ra : At V ro) : ∃ D', M_X10_beginsWay [mR (some 188), mI (nI k)] (rF I D G c, J) = some (none, (rF I D' G (nI ro), J)) ∧ Rel (some k) U (gV_X1_comeToRoot V) H W D' n := by
  have k4 := (r.T k rfl).1
  obtain ⟨D', d1, d2, _, _⟩ := r.come n60 h (up2 I 188 21 (nI k)) (by rw [up2_s]; rfl) G (nI ro) (tl := 0) (fun j q => by cases q; exact ⟨tz_16 V, 0, hm, by omega⟩) (by decide) ra.1 (by rw [tz_k V 1 (by decide), ra.2.1]; exact i10)
  refine ⟨D', ?_, ?_⟩
  · have d5 : sD (sD D (17 + 96 * k + 5) 0) (17 + 96 * k + 3) 0 5 = nI ro := by
      have := r.B.rt 0 (by decide)
      rw [tz_k V 9 (by decide), hr] at this
      exact this
    rw [E_X10_beginsWay]
    simp only [h.f18, Option.bind_some, w_walkerAt _ k 5 (show (5 : Int32) = nI 5 from rfl), w_walkerAt _ k 3 (show (3 : Int32) = nI 3 from rfl), asI_I, h.stD _ _ (show nI (17 + 96 * k + 5) = nI (17 + 96 * k + 5) from rfl) (show 17 + 96 * k + 5 < 1853 by omega), h.stD _ _ (show nI (17 + 96 * k + 3) = nI (17 + 96 * k + 3) from rfl) (show 17 + 96 * k + 3 < 1853 by omega), rF_sD, h.wi, rF_21, h.ldD _ (show (5 : Int32) = nI 5 from rfl) (show 5 < 1853 by decide), rF_D, d5, rF_sc, h.fi, rF_c, h.kt, if_true, d1, asV_n, up2_21 hw21]
  · have e : gV_X1_comeToRoot V = gV_X1_comeTo (tz V) (nI ro) := by
      unfold gV_X1_comeToRoot
      rw [hr]
      rfl
    rw [e]
    exact d2
/-- the root's entry -/
theorem MemI.root0 {U : NodV} {V : MemV} {n vol : Nat} (h : MemI U V n vol) (hN : NodI U n vol) : ∃ ro, V 9 0 = nI ro ∧ At V ro := by
  obtain ⟨r0, a1, a2⟩ := h.r0
  obtain ⟨r, b1, b2, _⟩ := h.rootA hN (v := 0) (by decide) (by rw [a2]; exact nI_m1 (by omega))
  exact ⟨r, b1, b2⟩
theorem Inv.ctr {U : NodV} {V : MemV} {H : OneV} {W : WkV} {n vol t T : Nat} {x : Nat → Nat} (i : Inv U V H W n vol t T x) {ro : Nat} (hr : V 9 0 = nI ro) (ra : At V ro) (ht : t + 1 ≤ T) : Inv U (gV_X1_comeToRoot V) H W n vol (t + 1) T x ∧ gV_X1_comeToRoot V 0 16 = nI 1 ∧ gV_X1_comeToRoot V 11 0 = nI ro ∧ At (gV_X1_comeToRoot V) ro ∧ gV_X1_comeToRoot V 1 = V 1 ∧ gV_X1_comeToRoot V 9 = V 9 := by
  have e : gV_X1_comeToRoot V = gV_X1_comeTo (tz V) (nI ro) := by
    unfold gV_X1_comeToRoot
    rw [hr]
    rfl
  rw [e]
  have tl := cT_tl (tz V) ra.1 (tz_16 V) (by decide)
  exact ⟨i.tzi.come ra.1 ht, tl.1, by rw [tl.2, if_pos rfl], ra.tzi.come _, by rw [cT_k _ _ _ (by decide) (by decide) (by decide), tz_k V 1 (by decide)], by rw [cT_k _ _ _ (by decide) (by decide) (by decide), tz_k V 9 (by decide)]⟩
/-- the row of a walker that begins -/
def bgD (D : RowV) (k l : Nat) (S : RowV) : RowV := fun j => if 17 + 96 * k ≤ j ∧ j < 17 + 96 * k + 96 then (if j = 17 + 96 * k then 1 else if j = 17 + 96 * k + 4 then nI l else if 17 + 96 * k + 6 ≤ j ∧ j < 17 + 96 * k + 6 + l then S (j - (17 + 96 * k + 6)) else 0) else D j
theorem w_begin34 {J : MJ} (h : RefL J) (I : MI) (D G : RowV) (c : Int32) {k l : Nat} (k4 : k < 4) (l12 : l ≤ 12) (hk : ∀ j, j < k → D (17 + 96 * j + 0) = 1) (hk0 : ¬ D (17 + 96 * k + 0) = 1) (h15 : I 188 15 = nI l) : Ev T_X10_begin 34 [some (mR (some 188)), some (mI 0), none] [] (rF I D G c, J) = (M_X10_beginsWay [mR (some 188), mI (nI k)] (rF I (bgD D k l (I 192)) G c, J)).bind fun u2 => (asV u2.1).bind fun _ => some (some (mI (nI k)), u2.2) := by
  have go : ∀ j, j ≤ k → Ev T_X10_begin 34 [some (mR (some 188)), some (mI 0), none] [] (rF I D G c, J) = Ev T_X10_begin 34 [some (mR (some 188)), some (mI (nI j)), none] [] (rF I D G c, J) := by
    intro j
    induction j with
    | zero => intro _; rfl
    | succ j ih =>
      intro hj
      rw [ih (by omega), E_X10_begin_34]
      simp only [h.kt, if_true, w_walkerHas h _ 0 (show (0 : Int32) = nI 0 from rfl) (show j < 4 by omega) (by decide), Option.bind_some, asI_I, rF_D, hk j (by omega), nI_1]
  rw [go k (Nat.le_refl _), E_X10_begin_34]
  simp only [h.kt, if_true, w_walkerHas h _ 0 (show (0 : Int32) = nI 0 from rfl) k4 (by decide), Option.bind_some, asI_I, rF_D, if_neg hk0]
  have s1 := loop_all (fun x D => Ev T_X10_begin 52 [some (mR (some 188)), some (mI (nI k)), some (mI (nI x))] [] (rF I D G c, J)) (fun x A => sD A (17 + 96 * k + x) ((fun _ => 0 : RowV) x)) 96 D (fun x A hx => by
    try dsimp only
    rw [E_X10_begin_52, if_neg (show ¬ (96 : Int32) ≤ nI x from nI_ge hx (by decide))]
    simp only [h.f18, Option.bind_some, w_walkerAt _ k x rfl, asI_I, h.stD _ _ rfl (show 17 + 96 * k + x < 1853 by omega), rF_sD, nI_1])
  try dsimp only at s1
  rw [show (nI 0) = 0 from rfl] at s1
  rw [s1, E_X10_begin_52, if_pos (show (96 : Int32) ≤ nI 96 by decide)]
  have a1 : ∀ j, itr (fun x A => sD A (17 + 96 * k + x) 0) 0 96 D j = if 17 + 96 * k ≤ j ∧ j < 17 + 96 * k + 96 then 0 else D j := fun j => itr_cp (fun _ => 0) (17 + 96 * k) 96 0 D j
  generalize itr (fun x A => sD A (17 + 96 * k + x) 0) 0 96 D = D1 at a1
  simp only [h.f18, Option.bind_some, w_walkerAt _ k 0 (show (0 : Int32) = nI 0 from rfl), w_walkerAt _ k 4 (show (4 : Int32) = nI 4 from rfl), asI_I, h.stD _ _ (show nI (17 + 96 * k + 0) = nI (17 + 96 * k + 0) from rfl) (show 17 + 96 * k + 0 < 1853 by omega), rF_sD, h.fi, rF_k I _ _ _ (show (15 : Nat) ≠ 22 by decide), h15, h.stD _ _ (show nI (17 + 96 * k + 4) = nI (17 + 96 * k + 4) from rfl) (show 17 + 96 * k + 4 < 1853 by omega)]
  have s2 := loop_all (fun x D => Ev T_X10_begin 102 [some (mR (some 188)), some (mI (nI k)), some (mI (nI x))] [] (rF I D G c, J)) (fun x A => sD A (17 + 96 * k + (6 + x)) (I 192 x)) l (sD (sD D1 (17 + 96 * k + 0) 1) (17 + 96 * k + 4) (nI l)) (fun x A hx => by
    try dsimp only
    rw [E_X10_begin_102]
    have e6 : (6 : Int32) + nI x = nI (6 + x) := nI_add 6 x
    have l64 : ld (rF I A G c, J) 11 192 (nI x) = some (I 192 x) := by
      rw [ld_ok _ h.s14 (inb_nI (show x < 64 by omega) (by decide)), rF_o _ _ _ _ (by decide) (by decide) (by decide), show (nI x).toNatClampNeg = x from ix_nI (by omega)]
    simp only [h.fi, rF_k I _ _ _ (show (15 : Nat) ≠ 22 by decide), h15, Option.bind_some, if_neg (show ¬ nI l ≤ nI x from nI_ge hx (by omega)), h.f18, w_walkerAt _ k (6 + x) e6, asI_I, h.f14, l64, h.stD _ _ rfl (show 17 + 96 * k + (6 + x) < 1853 by omega), rF_sD, nI_1])
  try dsimp only at s2
  rw [show (nI 0) = 0 from rfl] at s2
  have ef : (fun (x : Nat) (A : RowV) => sD A (17 + 96 * k + (6 + x)) (I 192 x)) = fun x A => sD A (17 + 96 * k + 6 + x) (I 192 x) := by
    funext x A
    rw [Nat.add_assoc (17 + 96 * k) 6 x]
  rw [ef] at s2
  rw [s2, E_X10_begin_102]
  have a2 : ∀ j, itr (fun x A => sD A (17 + 96 * k + 6 + x) (I 192 x)) 0 l (sD (sD D1 (17 + 96 * k + 0) 1) (17 + 96 * k + 4) (nI l)) j = if 17 + 96 * k + 6 ≤ j ∧ j < 17 + 96 * k + 6 + l then I 192 (j - (17 + 96 * k + 6)) else (sD (sD D1 (17 + 96 * k + 0) 1) (17 + 96 * k + 4) (nI l)) j := fun j => itr_cp (I 192) (17 + 96 * k + 6) l 0 _ j
  have e : itr (fun x A => sD A (17 + 96 * k + 6 + x) (I 192 x)) 0 l (sD (sD D1 (17 + 96 * k + 0) 1) (17 + 96 * k + 4) (nI l)) = bgD D k l (I 192) := by
    funext j
    rw [a2]
    unfold bgD sD
    rw [a1]
    by_cases c1 : 17 + 96 * k ≤ j ∧ j < 17 + 96 * k + 96
    · rw [if_pos c1, if_pos c1]
      by_cases c2 : 17 + 96 * k + 6 ≤ j ∧ j < 17 + 96 * k + 6 + l
      · rw [if_pos c2, if_neg (by omega), if_neg (by omega), if_pos c2]
      · rw [if_neg c2, if_neg c2]
        by_cases c3 : j = 17 + 96 * k
        · rw [if_neg (by omega), if_pos (by omega), if_pos c3]
        · rw [if_neg c3]
          by_cases c4 : j = 17 + 96 * k + 4
          · rw [if_pos c4, if_pos c4]
          · rw [if_neg c4, if_neg (by omega), if_neg c4]
    · rw [if_neg c1, if_neg c1, if_neg (by omega), if_neg (by omega), if_neg (by omega)]
  rw [e]
  simp only [h.fi, rF_k I _ _ _ (show (15 : Nat) ≠ 22 by decide), h15, Option.bind_some, if_pos (Int32.le_refl (nI l)), h.kt, if_true]
theorem bgD_o (D : RowV) (k l : Nat) (S : RowV) {j : Nat} (h : j < 17 + 96 * k ∨ 17 + 96 * k + 96 ≤ j) : bgD D k l S j = D j := if_neg (by omega)
theorem bgD_at (D : RowV) {k l : Nat} (S : RowV) (l12 : l ≤ 12) : bgD D k l S (17 + 96 * k + 0) = 1 ∧ bgD D k l S (17 + 96 * k + 1) = 0 ∧ bgD D k l S (17 + 96 * k + 2) = 0 ∧ bgD D k l S (17 + 96 * k + 4) = nI l ∧ ∀ j, j < l → bgD D k l S (17 + 96 * k + (6 + j)) = S j := by
  unfold bgD
  refine ⟨?_, ?_, ?_, ?_, fun j hj => ?_⟩
  · rw [if_pos (by omega), if_pos (by omega)]
  · rw [if_pos (by omega), if_neg (by omega), if_neg (by omega), if_neg (by omega)]
  · rw [if_pos (by omega), if_neg (by omega), if_neg (by omega), if_neg (by omega)]
  · rw [if_pos (by omega), if_neg (by omega), if_pos rfl]
  · rw [if_pos (by omega), if_neg (by omega), if_neg (by omega), if_pos (by omega)]
    congr 1
    omega
theorem cnt_all4 {P : Nat → Bool} : cnt P 0 4 = 4 ↔ ∀ k, k < 4 → P k = true := by
  constructor
  · intro q k hk
    cases z : P k with
    | true => rfl
    | false =>
      have one := cnt_one (P := P) (P' := fun i => if i = k then true else P i) (e := k) (n := 4) (k := 0) (Nat.zero_le _) (by omega) (fun i _ _ w => by rw [if_neg w])
      have := cnt_le (fun i => if i = k then true else P i) 4 0
      have e0 : (if P k = true then 1 else 0) = 0 := by rw [z]; rfl
      have e1 : (if (if k = k then true else P k) = true then 1 else 0) = 1 := by rw [if_pos rfl]; rfl
      rw [e0, e1] at one
      omega
  · intro q
    have : cnt P 0 4 = cnt (fun _ => true) 0 4 := cnt_cong (fun k _ hk => q k (by omega))
    rw [this]
    decide
theorem Rfs.bgn : Rfs (M_X10_begin [mR (some 188)]) 5 := fun J X X1 y h hp hc => by
  rw [E_X10_begin]
  simp only [h.kt, if_true, hp, Option.bind_some, asI_I, h.fz, w_refuses h X1 (show (5 : Int32) = nI 5 from rfl) (by decide)]
  rcases hc with z | ⟨z1, z2⟩
  · rw [if_pos z]
  · rw [if_neg z1, if_pos z2]
end
section
/-! A walk that begins: the pair. -/
theorem P_begin {I : MI} {J : MJ} {T B0 : Nat} (h : St I J T B0) (h30 : T + 10001 ≤ 1000000000) : Pair I J T B0 (M_X9_begin [mR (some 0)]) (M_X10_begin [mR (some 188)]) := by
  obtain ⟨n, t1, t2, t3⟩ := h.2.1
  have T4 := t1.1
  have fI : f_X8_freeWalker (tkn I n) 31 = f_X8_freeWalker I 31 := fst_cong (fun k _ hk => by
    unfold wz
    rw [tkn_o I n (by omega) (by omega)])
  by_cases hy : (rowO I n).1 = 1
  · rcases h.2.2.2.2.2.2.2.2.2 with td | u
    · obtain ⟨vol, nn, t, X, J1, hv, i, c, r, k1, kl, rl, ⟨e1, e2, e3, e4, e16⟩, x186, rest⟩ := act_pre (n := n) h h30 td t1 t2 t3 hy
      have wz1 : ∀ k, k < 4 → I 194 (17 + 96 * k + 0) = wz I 31 k := fun k hk => (r.K k hk).ws
      have td13 : ¬ bz (I 188 13) = 0 := by
        obtain ⟨_, _, _, _, _, z, _⟩ := td
        exact z
      cases hf : f_X8_freeWalker I 31 with
      | none =>
        have full : q_X8_freeWalker (tkn I n) 31 = -1 := by
          unfold q_X8_freeWalker
          rw [fI, hf]
          rfl
        refine Pair.path_full h h30 td t1 t2 t3 hy (k := 5) (by decide) (u_begin_full h.1.1 I T4 t1.2.1 hy full) (fun Y Y1 y1 y2 y3 => ?_)
        have all : cnt (fun k => decide (¬ Y1 194 (17 + 96 * k + 0) = 0)) 0 4 = 4 := by
          rw [cnt_all4]
          intro k hk
          rw [y2, wz1 k hk]
          have := fst_none hf k (Nat.zero_le _) (by omega)
          simpa using this
        have t13 : ¬ bz (Y1 188 13) = 0 := by
          rw [y3 13 (by decide) (by decide) (by decide) (by decide)]
          exact td13
        have wm := w_walkerMany h.1.2 Y1 (fun k hk => by rw [y2, wz1 k hk]; exact bz_or _)
        rw [E_X10_begin]
        simp only [h.1.2.kt, if_true, y1, Option.bind_some, asI_I, if_neg i10, h.1.2.fz, if_neg t13, wm, all]
        rw [if_pos (show nI 4 = 4 from rfl), w_refuses h.1.2 _ (show (5 : Int32) = nI 5 from rfl) (by decide)]
        rfl
      | some k =>
        obtain ⟨_, k4, kq, kmin⟩ := fst_some hf
        have k4 : k < 4 := by omega
        have kq : wz I 31 k = 0 := by simpa using kq
        have fX : f_X8_freeWalker X 31 = some k := by
          rw [← hf]
          exact fst_cong (fun j _ hj => by
            unfold wz
            rw [e4 _ (by omega) (by omega)])
        have nf : ¬ q_X8_freeWalker (tkn I n) 31 = -1 := by
          unfold q_X8_freeWalker
          rw [fI, hf]
          exact nI_m1 (by omega)
        have uE := u_begin h.1.1 I T4 t1.2.1 hy nf k1 kl
        have qX : q_X8_freeWalker X 31 = nI k := by
          unfold q_X8_freeWalker
          rw [fX]
          rfl
        have hX : h_X8_beginWalk X 158 12 31 17 = bgn X 158 12 31 17 k := by
          unfold h_X8_beginWalk
          rw [fX]
        have vK : vw 1 X (31 + 6 * k) = (wks I 31 k).1 := vw_fr (fun y p q => e4 y (by omega) (by omega))
        have vP : vw 2 X (31 + 6 * k + 1) = (wks I 31 k).2.1 := vw_fr (fun y p q => e4 y (by omega) (by omega))
        have vB : vw 3 X (31 + 6 * k + 3) = (wks I 31 k).2.2 := vw_fr (fun y p q => e4 y (by omega) (by omega))
        rw [qX, hX] at uE
        unfold bgn gK_X7_start gP_X7_start gB_X7_start gV_X7_start gK_X7_goToRoot gB_X7_goToRoot gV_X7_goToRoot at uE
        rw [vK, vP, vB, e2] at uE
        have w0 : bz ((wks I 31 k).1 0 5) = 0 := kq
        have ip := i.T (show T ≤ T + 10001 by omega) h30
        have tT := i.Z.tT
        obtain ⟨ro, hr, ra⟩ := i.M.root0 i.N
        obtain ⟨i1, c16, c11, ca, cr1, cr9⟩ := ip.ctr hr ra (by omega)
        generalize hK1 : uv (uv (uv (uv (uv (wks I 31 k).1 0 5 1) 0 6 0) 0 7 0) 0 4 0) 0 8 0 = K1 at uE
        have k14 : K1 0 4 = nI 0 := by rw [← hK1]; rfl
        have k18 : K1 0 8 = nI 0 := by rw [← hK1]; rfl
        have k17 : K1 0 7 = nI 0 := by rw [← hK1]; rfl
        have k15 : K1 0 5 = 1 := by rw [← hK1]; rfl
        have k16 : K1 0 6 = 0 := by rw [← hK1]; rfl
        have uw1 : ¬ bz (K1 0 5) = 0 := by rw [k15]; decide
        have o := tkt_all (m := 0) (tl := 1) (K := K1) (B := (wks I 31 k).2.2) (by omega) (by omega) k14 c16 (fun j hj => by
          have : j = 0 := by omega
          subst this
          exact ⟨ro, c11, ca⟩)
        generalize gK_X7_takeTrail K1 (wks I 31 k).2.2 (gV_X1_comeToRoot (vw 12 I 17)) = K' at uE o
        generalize gB_X7_takeTrail K1 (wks I 31 k).2.2 (gV_X1_comeToRoot (vw 12 I 17)) = B' at uE o
        generalize gV_X7_takeTrail K1 (wks I 31 k).2.2 (gV_X1_comeToRoot (vw 12 I 17)) = V' at uE o
        generalize hP' : gP_X4_copyFrom 12 12 (vw 2 X 158) (wks I 31 k).2.1 = P' at uE
        generalize hI1 : pt (pt (pt (pt X (31 + 6 * k) K') (31 + 6 * k + 1) P') (31 + 6 * k + 3) B') 17 V' = I1 at uE
        have oX : ∀ y, y < 17 ∨ (29 ≤ y ∧ y < 31) ∨ 55 ≤ y → I1 y = X y := fun y q => by rw [← hI1, pt_out (by omega), pt_out (by omega), pt_out (by omega), pt_out (by omega)]
        obtain ⟨Z, Y1, l', g1, g2, g3, g4, l12, pth, x158, z15, zf, fin⟩ := rest I1 (fun y q _ => oX y (by omega))
        have x1 : vw 2 X 158 0 1 = nI l' := x158
        have cp := copy_route (L2 := 12) (L := 12) (P := (wks I 31 k).2.1) x1 l12 l12 (by decide) (by decide)
        rw [hP'] at cp
        have w1 : ∀ (x : OneV × RouV × TriV) j, j ≠ k → wkS (wks I 31) k x j = wks I 31 j := fun x j q => wkS_n _ x q
        have kv : ∀ r : Fin 12, r ≠ 5 → V' r = gV_X1_comeToRoot (vw 12 I 17) r := o.2.2.2.2.1
        obtain ⟨i2, wi2, _⟩ := i1.wnew (W' := wkS (wks I 31) k (K', P', B')) k4 w0 (w1 _) (wkS_s _ _ _) l12 (by omega : 0 ≤ 3) k14 k18 cp.1 k17 uw1 c11 ca o
        have at0 := bgD_at (I 194) (k := k) (Z 192) l12
        have sO : ∀ j, j ≠ 17 + 96 * k + 5 → j ≠ 17 + 96 * k + 3 → sD (sD (bgD (I 194) k l' (Z 192)) (17 + 96 * k + 5) 0) (17 + 96 * k + 3) 0 j = bgD (I 194) k l' (Z 192) j := fun j a b => by rw [sD_n _ _ b, sD_n _ _ a]
        have s5 : sD (sD (bgD (I 194) k l' (Z 192)) (17 + 96 * k + 5) 0) (17 + 96 * k + 3) 0 (17 + 96 * k + 5) = 0 := by rw [sD_n _ _ (by omega), sD_s]
        have r1 : Rel (some k) (vw 6 I 1) (tz (vw 12 I 17)) (vw 1 I 29) (wkS (wks I 31) k (K1, P', (wks I 31 k).2.2)) (sD (sD (bgD (I 194) k l' (Z 192)) (17 + 96 * k + 5) 0) (17 + 96 * k + 3) 0) nn := by
          refine r.wch k4 (Or.inl rfl) (r.tzi.B.dd (fun j q => by rw [sO j (by omega) (by omega), bgD_o _ _ _ _ (by omega)]) (fun _ _ _ _ => rfl) ⟨rfl, rfl, rfl, rfl⟩) (fun j _ _ q => by rw [sO j (by omega) (by omega), bgD_o _ _ _ _ q]) (w1 _) ?_ ⟨0, 0, ?_, ?_, tz_16 _, by omega, by omega, s5, fun j hj => by omega⟩
          · rw [wkS_s]
            refine ⟨?_, fun _ => ⟨?_, ?_, ?_, ?_⟩, fun _ j hj h2 => ?_, fun _ j hj h2 => ?_⟩
            · show _ = bz (K1 0 5)
              rw [sO _ (by omega) (by omega), at0.1, k15]; rfl
            · show _ = bz (K1 0 6)
              rw [sO _ (by omega) (by omega), at0.2.1, k16]; rfl
            · show _ = K1 0 7
              rw [sO _ (by omega) (by omega), at0.2.2.1, k17]; rfl
            · show _ = K1 0 8
              rw [sD_s, k18]; rfl
            · show _ = P' 0 1
              rw [sO _ (by omega) (by omega), at0.2.2.2.1, cp.1]
            · have h2 : j < ix (P' 0 1) := h2
              rw [cp.1, ix_nI (by omega)] at h2
              show NmS (P' 1 j) _
              rw [sO _ (by omega) (by omega), at0.2.2.2.2 j h2, cp.2 j h2]
              exact pth.2 j h2
            · have h2 : j < ix (K1 0 4) := h2
              rw [k14, show ix (nI 0) = 0 from rfl] at h2
              omega
          · rw [wkS_s]; exact uw1
          · rw [wkS_s]; exact k14
        obtain ⟨D', bw, r2⟩ := r1.begW i.N.n60 rl Z zf.2.2.1 (Z 195) (Z 188 22) (by rw [wkS_s]; exact k14) hr ra
        have r3 := r2.tk (W' := wkS (wks I 31) k (K', P', B')) (wkS_s _ _ _) (fun j q => by rw [w1 _ j q, w1 _ j q]) (wkS_s _ _ _) k14 c16 (by omega) (by omega) o
        have r4 := r3.rest ⟨0, by omega, by rw [wkS_s]; exact (o.2.1 7 (by decide)).trans k17⟩
        refine ⟨nI k, _, rF Z D' (Z 195) (nI ro), J1, uE, ?_, fin1 fin zf h.2.2.2.1 (by rw [oX 186 (by omega)]; exact x186) ⟨?_, ?_, ?_, fun j hj => ?_⟩ i2 (c.fr ((kv 1 (by decide)).trans cr1) ((kv 9 (by decide)).trans cr9)) r4⟩
        · have t13 : ¬ bz (Y1 188 13) = 0 := by
            rw [g2 13 (by decide) (by decide) (by decide) (by decide)]
            exact td13
          have wm := w_walkerMany rl Y1 (fun k hk => by rw [g3, wz1 k hk]; exact bz_or _)
          have n4 : ¬ nI (cnt (fun k => decide (¬ Y1 194 (17 + 96 * k + 0) = 0)) 0 4) = 4 := fun z => by
            have le := cnt_le (fun k => decide (¬ Y1 194 (17 + 96 * k + 0) = 0)) 4 0
            have : cnt (fun k => decide (¬ Y1 194 (17 + 96 * k + 0) = 0)) 0 4 = 4 := (nI_eq (b := 4) (by omega) (by decide)).mp z
            rw [cnt_all4] at this
            have := this k k4
            rw [g3, wz1 k k4, kq] at this
            simp at this
          have b34 := w_begin34 rl Z (I 194) (Z 195) (Z 188 22) k4 l12 (fun j hj => by
            rw [wz1 j (by omega)]
            have := kmin j (Nat.zero_le _) hj
            have : ¬ wz I 31 j = 0 := by simpa using this
            exact (bz_or _).resolve_left this) (by rw [wz1 k k4, kq]; decide) z15
          have id : rF Z (I 194) (Z 195) (Z 188 22) = Z := by rw [← zf.1]; exact rF_id _
          rw [id] at b34
          rw [E_X10_begin]
          simp only [rl.kt, if_true, g1, Option.bind_some, asI_I, if_neg i10, rl.fz, if_neg t13, wm, if_neg n4, g4, asV_n, b34, bw]
        · rw [← e1]; exact vw_fr (fun y _ _ => oX y (by omega))
        · rw [← hI1]; exact vw_pt _ _ _
        · rw [← e3]; exact vw_fr (fun y _ _ => oX y (by omega))
        · by_cases z : j = k
          · subst z
            rw [wkS_s]
            have q1 : vw 1 I1 (31 + 6 * j) = K' := by rw [← hI1, vw_out _ _ (by omega), vw_out _ _ (by omega), vw_out _ _ (by omega), vw_pt]
            have q2 : vw 2 I1 (31 + 6 * j + 1) = P' := by rw [← hI1, vw_out _ _ (by omega), vw_out _ _ (by omega), vw_pt]
            have q3 : vw 3 I1 (31 + 6 * j + 3) = B' := by rw [← hI1, vw_out _ _ (by omega), vw_pt]
            have : wks I1 31 j = (K', P', B') := by
              unfold wks
              rw [q1, q2, q3]
            rw [this]
            exact WkEq.refl _
          · rw [w1 _ j z]
            have : wks I1 31 j = wks I 31 j := by
              have f1 : ∀ y, 31 + 6 * j ≤ y → y < 31 + 6 * j + 6 → I1 y = I y := fun y p q => by
                rw [← hI1, pt_out (by omega), pt_out (by omega), pt_out (by omega), pt_out (by omega), e4 y (by omega) (by omega)]
              unfold wks
              rw [vw_fr (N := 1) (I := I) (fun y p q => f1 y (by omega) (by omega)), vw_fr (N := 2) (I := I) (fun y p q => f1 y (by omega) (by omega)), vw_fr (N := 3) (I := I) (fun y p q => f1 y (by omega) (by omega))]
            rw [this]
            exact WkEq.refl _
    · refine absurd hy ?_
      unfold rowO
      rw [if_pos (by rw [u.2.2.1.2.1]; exact Int32.le_refl _)]
      exact (by decide : ¬ (-1 : Int32) = 1)
  · exact Pair.path_no h h30 t1 t2 t3 hy (by decide) (u_begin_no h.1.1 I T4 t1.2.1 hy) Rfs.bgn
end
section
/-! Whether a way is other, whether a walker turns heavy, on both sides. -/
theorem e18 (j : Nat) : (18 : Int32) + 3 * nI j = nI (18 + 3 * j) ∧ (18 : Int32) + 3 * nI j + 1 = nI (18 + 3 * j + 1) ∧ (18 : Int32) + 3 * nI j + 2 = nI (18 + 3 * j + 2) := by
  have e : (18 : Int32) + 3 * nI j = nI (18 + 3 * j) := by
    rw [show (18 : Int32) = nI 18 from rfl, show (3 : Int32) = nI 3 from rfl, nI_mul, nI_add]
  exact ⟨e, by rw [e, nI_1], by rw [e]; exact nI_add _ 2⟩
theorem ch_s (K : OneV) (B : TriV) (V : MemV) (nn k : Nat) : lp_X7_isChanged_2 K B V (nn + 1) k = (if (K 0 4) ≤ (nI k) then (0) else (if (q_X1_isEntry V (B 0 k)) = 0 then (1) else (if (V 8 (ix (B 0 k))) = (B 1 k) then (if (V 6 (ix (B 0 k))) = (B 2 k) then lp_X7_isChanged_2 K B V nn (k + 1)  else (1)) else (1)))) := rfl
theorem w_wayOther {U : NodV} {V : MemV} {H : OneV} {W : WkV} {D : RowV} {n t T k : Nat} (r : Rel none U V H W D n) {J : MJ} (h : RefL J) (I : MI) (G : RowV) (c : Int32) (k4 : k < 4) {K : OneV} {P : RouV} {B : TriV} {m d l rr : Nat} (wk : W k = (K, P, B)) (uw : ¬ bz (K 0 5) = 0) (wi : WkI V t T (K, P, B) m d l rr) : M_X10_isWayOther [mR (some 188), mI (nI k)] (rF I D G c, J) = some (some (mI (q_X7_isChanged K B V)), (rF I D G c, J)) := by
  have b1 := wi.md
  have b2 := wi.dl
  have b3 := wi.l12
  have e4 : K 0 4 = nI m := wi.m
  have rk := r.K k k4
  rw [wk] at rk
  have d5 : D (17 + 96 * k + 5) = nI m := by
    have := r.M k k4 (by rw [wk]; exact uw) (fun z => by cases z)
    rw [wk] at this
    exact this.trans e4
  have nh : ∀ f, f < 96 → ∀ (z : Int32), z = nI f → M_X10_walkerHas [mR (some 188), mI (nI k), mI z] (rF I D G c, J) = some (some (mI (D (17 + 96 * k + f))), (rF I D G c, J)) := fun f hf z hz => by
    rw [w_walkerHas h _ f hz k4 hf, rF_D]
  have loop : ∀ (nn j : Nat), j + nn = 25 → j ≤ m → Ev T_X10_isWayOther 2 [some (mR (some 188)), some (mI (nI k)), some (mI (nI j)), none] [] (rF I D G c, J) = some (some (mI (lp_X7_isChanged_2 K B V nn j)), (rF I D G c, J)) := by
    intro nn
    induction nn with
    | zero =>
      intro j hj jm
      have z : j = m := by omega
      rw [E_X10_isWayOther_2]
      have e : lp_X7_isChanged_2 K B V 0 j = 0 := by
        show (if (K 0 4) ≤ (nI j) then (0) else (0)) = (0 : Int32)
        rw [ite_self]
      simp only [h.kt, if_true, nh 5 (by decide) 5 rfl, Option.bind_some, asI_I, d5, z, if_pos (Int32.le_refl (nI m))]
      rw [← z, e]
      simp
    | succ nn ih =>
      intro j hj jm
      rw [E_X10_isWayOther_2, ch_s]
      simp only [h.kt, if_true, nh 5 (by decide) 5 rfl, Option.bind_some, asI_I, d5]
      by_cases z : j = m
      · subst z
        rw [if_pos (Int32.le_refl _), e4, if_pos (Int32.le_refl _)]
        simp
      · have jm' : j < m := by omega
        have wy := rk.wy uw j (by omega) (by show j < ix (K 0 4); rw [e4, ix_nI (by omega)]; exact jm')
        obtain ⟨y1, y2, y3⟩ := wy
        have y1 : D (17 + 96 * k + (18 + 3 * j)) = B 0 j := y1
        have y2 : D (17 + 96 * k + (18 + 3 * j + 1)) = B 1 j := y2
        have y3 : D (17 + 96 * k + (18 + 3 * j + 2)) = B 2 j := y3
        obtain ⟨e, e64, be, _⟩ := (wi.wy j jm').ex
        have be : B 0 j = nI e := be
        obtain ⟨x1, x2, x3⟩ := e18 j
        rw [if_neg (nI_ge jm' (by omega)), e4, if_neg (nI_ge jm' (by omega))]
        have isq : q_X1_isEntry V (nI e) = if V 1 e = 0 then 0 else 1 := isE_k e64
        simp only [h.kt, if_true, nh (18 + 3 * j) (by omega) _ x1, nh (18 + 3 * j + 1) (by omega) _ x2, nh (18 + 3 * j + 2) (by omega) _ x3, Option.bind_some, asI_I, y1, y2, y3, be, w_its h _ 0 (show (0 : Int32) = nI 0 from rfl) (show e < 128 by omega) (by decide), w_its h _ 6 (show (6 : Int32) = nI 6 from rfl) (show e < 128 by omega) (by decide), w_its h _ 4 (show (4 : Int32) = nI 4 from rfl) (show e < 128 by omega) (by decide), rF_D, isq, ix64 e64]
        by_cases v0 : V 1 e = 0
        · rw [r.B.th0 (show e < 128 by omega) (fun _ => v0), if_pos rfl, if_pos v0, if_pos rfl]
          simp
        · have en := r.B.en e e64 v0
          rw [r.B.th1 e64 v0, if_neg i10, if_neg v0, if_neg i10, en.2.2.2.2.2.1, en.2.2.2.1]
          by_cases v8 : V 8 e = B 1 j
          · rw [if_pos v8, if_pos v8]
            by_cases v6 : V 6 e = B 2 j
            · rw [if_pos v6, if_pos v6, nI_1]
              exact ih (j + 1) (by omega) (by omega)
            · rw [if_neg v6, if_neg v6]
              simp
          · rw [if_neg v8, if_neg v8]
            simp
  rw [E_X10_isWayOther]
  exact loop 25 0 rfl (Nat.zero_le _)
theorem chg_no {V : MemV} {t T : Nat} {K : OneV} {P : RouV} {B : TriV} {m d l rr : Nat} (T30 : T ≤ 1000000000) (wi : WkI V t T (K, P, B) m d l rr) (h : q_X7_isChanged K B V = 0) : ∀ j, j < m → ∃ e, B 0 j = nI e ∧ At V e := by
  have b1 := wi.md
  have b2 := wi.dl
  have b3 := wi.l12
  have e4 : K 0 4 = nI m := wi.m
  have key : ∀ (nn j : Nat), j + nn = 25 → lp_X7_isChanged_2 K B V nn j = 0 → ∀ i, j ≤ i → i < m → ∃ e, B 0 i = nI e ∧ At V e := by
    intro nn
    induction nn with
    | zero =>
      intro j hj _ i h1 h2
      omega
    | succ nn ih =>
      intro j hj hz i h1 h2
      obtain ⟨e, e64, be, ⟨bb, cc, g1, g2, g3, g4, g5⟩, _⟩ := (wi.wy j (by omega)).ex
      have be : B 0 j = nI e := be
      have g1 : B 1 j = nI bb := g1
      have g3 : B 2 j = nI cc := g3
      rw [ch_s, e4, if_neg (nI_ge (show j < m by omega) (by omega)), be, isE_k e64, ix64 e64] at hz
      by_cases v0 : V 1 e = 0
      · rw [if_pos v0, if_pos rfl] at hz
        exact absurd hz (by decide)
      · rw [if_neg v0, if_neg i10] at hz
        by_cases v8 : V 8 e = B 1 j
        · rw [if_pos v8] at hz
          by_cases v6 : V 6 e = B 2 j
          · rw [if_pos v6] at hz
            by_cases z : i = j
            · subst z
              obtain ⟨c2, k1, k2, k3, k4⟩ := g5 v0 v8
              have : cc = c2 := (nI_eq (by omega) (by omega)).mp (g3.symm.trans (v6.symm.trans k1))
              exact ⟨e, be, e64, k4 this⟩
            · exact ih (j + 1) (by omega) hz i (by omega) h2
          · rw [if_neg v6] at hz
            exact absurd hz (by decide)
        · rw [if_neg v8] at hz
          exact absurd hz (by decide)
  intro j hj
  exact key 25 0 rfl h j (Nat.zero_le _) hj
theorem last_q7 {K : OneV} {B : TriV} {m : Nat} (h4 : K 0 4 = nI m) (m1 : 1 ≤ m) (m25 : m ≤ 25) : q_X7_lastOfWay K B = B 0 (m - 1) := by
  unfold q_X7_lastOfWay
  rw [h4, if_neg (nI_nle (by omega) (by omega)), if_neg (show ¬ (25 : Int32) < nI m from nI_nlt (a := 25) (by omega) (by omega)), show nI m - 1 = nI (m - 1) from nI_sub (b := 1) (by omega), ix_nI (by omega)]
theorem stepAt_o {L : Nat} {P : RouV} {lp k : Nat} (hp : P 0 1 = nI lp) (hk : lp ≤ k) (hb : k < 1000) : q_X4_stepAt L P (nI k) = 0 := by
  unfold q_X4_stepAt
  rw [if_neg (nI_pos (show k < 2 ^ 31 by omega)), hp, if_pos (nI_le hk (by omega))]
/-- a walker turns heavy -/
theorem Rel.turns {U : NodV} {V : MemV} {H : OneV} {W : WkV} {D : RowV} {n k t T : Nat} (r : Rel none U V H W D n) {J : MJ} (h : RefL J) (I : MI) (G : RowV) (c : Int32) (k4 : k < 4) {K : OneV} {P : RouV} {B : TriV} {m d l rr : Nat} (wk : W k = (K, P, B)) (uw : ¬ bz (K 0 5) = 0) (wi : WkI V t T (K, P, B) m d l rr) {a : Nat} (last : B 0 (m - 1) = nI a) (ha : At V a) : M_X10_turnsHeavy [mR (some 188), mI (nI k)] (rF I D G c, J) = some (none, (rF I (if bz (K 0 6) = 0 ∧ ¬ q_X7_lacksNext 12 K P B V = 0 then sD D (17 + 96 * k + 1) 1 else D) G c, J)) := by
  have b1 := wi.md
  have b2 := wi.dl
  have b3 := wi.l12
  have b4 := wi.m1
  have e4 : K 0 4 = nI m := wi.m
  have e8 : K 0 8 = nI d := wi.d
  have el : P 0 1 = nI l := wi.l
  have rk := r.K k k4
  rw [wk] at rk
  obtain ⟨u1, u2, u3, u4⟩ := rk.un uw
  have u1 : D (17 + 96 * k + 1) = bz (K 0 6) := u1
  have u3 : D (17 + 96 * k + 3) = nI d := u3.trans e8
  have u4 : D (17 + 96 * k + 4) = nI l := u4.trans el
  have d5 : D (17 + 96 * k + 5) = nI m := by
    have := r.M k k4 (by rw [wk]; exact uw) (fun z => by cases z)
    rw [wk] at this
    exact this.trans e4
  have nh : ∀ f, f < 96 → ∀ (z : Int32), z = nI f → M_X10_walkerHas [mR (some 188), mI (nI k), mI z] (rF I D G c, J) = some (some (mI (D (17 + 96 * k + f))), (rF I D G c, J)) := fun f hf z hz => by
    rw [w_walkerHas h _ f hz k4 hf, rF_D]
  have lw := last_q7 (B := B) e4 b4 (by omega)
  rw [E_X10_turnsHeavy]
  simp only [h.kt, if_true, nh 1 (by decide) 1 rfl, Option.bind_some, asI_I, u1]
  by_cases hv : bz (K 0 6) = 0
  · rw [if_neg (show ¬ bz (K 0 6) = 1 by rw [hv]; exact i01)]
    simp only [E_X10_isThrough, h.kt, if_true, nh 3 (by decide) 3 rfl, nh 4 (by decide) 4 rfl, Option.bind_some, asI_I, u3, u4]
    by_cases dl : d = l
    · have sa : q_X4_stepAt 12 P (K 0 8) = 0 := by rw [e8]; exact stepAt_o el (by omega) (by omega)
      have ln : q_X7_lacksNext 12 K P B V = 0 := by
        unfold q_X7_lacksNext
        rw [sa, if_pos (Int32.le_refl _)]
      have rhs : (if bz (K 0 6) = 0 ∧ ¬ q_X7_lacksNext 12 K P B V = 0 then sD D (17 + 96 * k + 1) 1 else D) = D := if_neg (fun z => z.2 ln)
      rw [rhs, dl]
      simp [asI]
    · have dl' : d < l := by omega
      have sp := rk.sp uw d (by omega) (by show d < ix (P 0 1); rw [el, ix_nI (by omega)]; exact dl')
      have sp : NmS (P 1 d) (D (17 + 96 * k + (6 + d))) := sp
      have sa : q_X4_stepAt 12 P (K 0 8) = P 1 d := by rw [e8]; exact stepAt_k el dl' (by omega) (by decide)
      have e6 : (6 : Int32) + nI d = nI (6 + d) := nI_add 6 d
      have wy := rk.wy uw (m - 1) (by omega) (by show m - 1 < ix (K 0 4); rw [e4, ix_nI (by omega)]; omega)
      have dla : D (17 + 96 * k + (18 + 3 * (m - 1))) = nI a := wy.1.trans last
      have nd : ¬ nI d = nI l := fun z => dl ((nI_eq (by omega) (by omega)).mp z)
      have lnq : q_X7_lacksNext 12 K P B V = if P 1 d ≤ 0 then 0 else if q_X1_find V (nI a) (P 1 d) = -1 then 1 else 0 := by
        unfold q_X7_lacksNext
        rw [sa, lw, last]
      simp only [if_neg nd, true_or, if_true, Option.bind_some, asI_I]
      simp only [E_X10_nextStep, h.kt, if_true, nh 3 (by decide) 3 rfl, Option.bind_some, asI_I, u3, nh (6 + d) (by omega) _ e6, nh 5 (by decide) 5 rfl, d5, nh (18 + 3 * (m - 1)) (by omega) _ (m1_18 b4), dla, w_childHere h, rF_D]
      by_cases ps : 0 < P 1 d
      · have py : 0 < D (17 + 96 * k + (6 + d)) := sp.pos.1.mp ps
        have nm := sp.nm ps
        rw [if_neg (i32_gt_ne ps).2.2.2, find_o ha.1 (by rw [ha.2.1]; exact i10)] at lnq
        rw [if_pos py, r.eqc (nI a) nm]
        by_cases z : oI (f_X1_find V (nI a) (P 1 d)) = -1
        · rw [if_pos z] at lnq
          have rhs : (if bz (K 0 6) = 0 ∧ ¬ q_X7_lacksNext 12 K P B V = 0 then sD D (17 + 96 * k + 1) 1 else D) = sD D (17 + 96 * k + 1) 1 := if_pos ⟨hv, by rw [lnq]; exact i10⟩
          rw [rhs, if_pos z]
          simp only [h.f18, Option.bind_some, w_walkerAt _ k 1 (show (1 : Int32) = nI 1 from rfl), asI_I, h.stD _ _ (show nI (17 + 96 * k + 1) = nI (17 + 96 * k + 1) from rfl) (show 17 + 96 * k + 1 < 1853 by omega), rF_sD]
        · rw [if_neg z] at lnq
          have rhs : (if bz (K 0 6) = 0 ∧ ¬ q_X7_lacksNext 12 K P B V = 0 then sD D (17 + 96 * k + 1) 1 else D) = D := if_neg (fun y => y.2 lnq)
          rw [rhs, if_neg z]
      · have py : ¬ 0 < D (17 + 96 * k + (6 + d)) := fun z => ps (sp.pos.1.mpr z)
        rw [if_pos (Int32.not_lt.mp ps)] at lnq
        have rhs : (if bz (K 0 6) = 0 ∧ ¬ q_X7_lacksNext 12 K P B V = 0 then sD D (17 + 96 * k + 1) 1 else D) = D := if_neg (fun y => y.2 lnq)
        rw [rhs, if_neg py]
  · have rhs : (if bz (K 0 6) = 0 ∧ ¬ q_X7_lacksNext 12 K P B V = 0 then sD D (17 + 96 * k + 1) 1 else D) = D := if_neg (fun z => hv z.1)
    rw [rhs, (bz_or _).resolve_left hv, if_pos rfl]
theorem holdAll_loop {K : OneV} {B : TriV} {m : Nat} (h4 : K 0 4 = nI m) (m25 : m ≤ 25) (ha : ∀ j, j < m → ∃ e, e < 64 ∧ B 0 j = nI e) : ∀ (nn k : Nat) (V : MemV), k + nn = 25 → k ≤ m → (∀ q : Fin 12, q ≠ 5 → lp_X7_holdAll_2 K B nn k V q = V q) ∧ ∀ f, f < 64 → lp_X7_holdAll_2 K B nn k V 5 f = V 5 f + nI (cnt (fun j => decide (B 0 j = nI f)) k (m - k)) := by
  intro nn
  induction nn with
  | zero =>
    intro k V hk km
    have z : k = m := by omega
    have e : lp_X7_holdAll_2 K B 0 k V = V := by
      show (if (K 0 4) ≤ (nI k) then (V) else (V)) = V
      rw [ite_self]
    rw [e]
    refine ⟨fun _ _ => rfl, fun f _ => ?_⟩
    rw [z, Nat.sub_self]
    exact (Int32.add_zero _).symm
  | succ nn ih =>
    intro k V hk km
    have st : lp_X7_holdAll_2 K B (nn + 1) k V = (if (K 0 4) ≤ (nI k) then (V) else lp_X7_holdAll_2 K B nn (k + 1) (gV_X1_hold V (B 0 k))) := rfl
    rw [st, h4]
    by_cases z : k = m
    · rw [if_pos (nI_le (by omega) (by omega))]
      refine ⟨fun _ _ => rfl, fun f _ => ?_⟩
      rw [z, Nat.sub_self]
      exact (Int32.add_zero _).symm
    · obtain ⟨e, e64, be⟩ := ha k (by omega)
      rw [if_neg (nI_ge (show k < m by omega) (by omega)), be]
      obtain ⟨j1, j2⟩ := ih (k + 1) (gV_X1_hold V (nI e)) (by omega) (by omega)
      refine ⟨fun q h5 => by rw [j1 q h5, ho_k _ _ _ h5], fun f hf => ?_⟩
      rw [j2 f hf, ho_5 V e64, show m - k = (m - (k + 1)) + 1 by omega]
      show _ = V 5 f + nI ((if decide (B 0 k = nI f) = true then 1 else 0) + cnt (fun j => decide (B 0 j = nI f)) (k + 1) (m - (k + 1)))
      rw [be]
      by_cases w : f = e
      · rw [if_pos w, w, if_pos (by simp), ← nI_add, ← Int32.add_assoc]
        rfl
      · have : ¬ nI e = nI f := fun y => w ((nI_eq (by omega) (by omega)).mp y).symm
        rw [if_neg w, if_neg (by simp [this]), Nat.zero_add]
/-- a walker that turns heavy holds its way: what holds stays -/
theorem Inv.heavy {U : NodV} {V : MemV} {H : OneV} {W W' : WkV} {n vol t T : Nat} (i : Inv U V H W n vol t T (fun _ => 0)) {k : Nat} (hk : k < 4) {K : OneV} {P : RouV} {B : TriV} {m d l rr : Nat} (wk : W k = (K, P, B)) (wi : WkI V t T (K, P, B) m d l rr) (hv : bz (K 0 6) = 0) (uw : ¬ bz (K 0 5) = 0) (al : ∀ j, j < m → ∃ e, B 0 j = nI e ∧ At V e) (w1 : ∀ j, j ≠ k → W' j = W j) (wk' : W' k = (uv K 0 6 1, P, B)) : Inv U (gV_X7_holdAll (uv K 0 6 1) B V) H W' n vol t T (fun _ => 0) ∧ WkI (gV_X7_holdAll (uv K 0 6 1) B V) t T (uv K 0 6 1, P, B) m d l rr ∧ ∀ q : Fin 12, q ≠ 5 → gV_X7_holdAll (uv K 0 6 1) B V q = V q := by
  have b1 := wi.md
  have b2 := wi.dl
  have b3 := wi.l12
  have e4 : K 0 4 = nI m := wi.m
  have kj : ∀ j, j ≠ 6 → uv K 0 6 1 0 j = K 0 j := fun j q => uv_n _ _ _ _ _ _ (fun w => q w.2)
  have k6 : uv K 0 6 1 0 6 = 1 := uv_s _ _ _ _
  obtain ⟨j1, j2⟩ := holdAll_loop (K := uv K 0 6 1) (B := B) (m := m) ((kj 4 (by decide)).trans e4) (by omega) (fun j hj => by
    obtain ⟨e, e1, e2⟩ := al j hj
    exact ⟨e, e2.1, e1⟩) 25 0 V rfl (Nat.zero_le _)
  have eq : gV_X7_holdAll (uv K 0 6 1) B V = lp_X7_holdAll_2 (uv K 0 6 1) B 25 0 V := rfl
  rw [eq]
  have wI : WkI V t T (uv K 0 6 1, P, B) m d l rr := ⟨(kj 4 (by decide)).trans e4, (kj 8 (by decide)).trans wi.d, wi.l, (kj 7 (by decide)).trans wi.r, wi.m1, b1, b2, b3, wi.r3, fun j hj => by
    obtain ⟨e, e64, be, g, _⟩ := (wi.wy j hj).ex
    obtain ⟨f, f1, f2⟩ := al j hj
    have : f = e := (nI_eq (by have := f2.1; omega) (by omega)).mp (f1.symm.trans be)
    subst this
    exact ⟨f, e64, be, g, fun _ => ⟨by rw [f2.2.1]; exact i10, f2.2.2⟩⟩⟩
  refine ⟨i.wset hk w1 (fun f => cnt (fun j => decide (B 0 j = nI f)) 0 m) (fun f _ => ?_) (fun q _ h5 => j1 q h5) ⟨by rw [j1 0 (by decide)], by rw [j1 0 (by decide)], by rw [j1 0 (by decide)]⟩ (fun f hf _ => j2 f hf) (fun _ => ⟨m, d, l, rr, wi.r3, by rw [wk']; exact wI⟩), wI.fr (j1 1 (by decide)) (j1 4 (by decide)) (j1 6 (by decide)) (j1 8 (by decide)) (Nat.le_refl _) (Nat.le_refl _), j1⟩
  rw [wk', wk]
  show (if bz (uv K 0 6 1 0 5) = 0 ∨ bz (uv K 0 6 1 0 6) = 0 then 0 else cnt (fun k => decide (B 0 k = nI f)) 0 (ix (uv K 0 6 1 0 4))) = (if bz (K 0 5) = 0 ∨ bz (K 0 6) = 0 then 0 else cnt (fun k => decide (B 0 k = nI f)) 0 (ix (K 0 4))) + cnt (fun j => decide (B 0 j = nI f)) 0 m
  rw [if_pos (Or.inr hv), kj 5 (by decide), k6, if_neg (fun z => z.elim uw (by decide)), kj 4 (by decide), e4, ix_nI (by omega), Nat.zero_add]
theorem Rel.heavy {U : NodV} {V V' : MemV} {H : OneV} {W W' : WkV} {D : RowV} {n k : Nat} (r : Rel none U V H W D n) (k4 : k < 4) {K : OneV} {P : RouV} {B : TriV} {m : Nat} (wk : W k = (K, P, B)) (h4 : K 0 4 = nI m) (m25 : m ≤ 25) (uw : ¬ bz (K 0 5) = 0) (w1 : ∀ j, j ≠ k → W' j = W j) (wk' : W' k = (uv K 0 6 1, P, B)) (kv : ∀ q : Fin 12, q ≠ 5 → V' q = V q) : Rel (some k) U (tz V') H W' (sD D (17 + 96 * k + 1) 1) n := by
  have o : ∀ j, j ≠ 17 + 96 * k + 1 → sD D (17 + 96 * k + 1) 1 j = D j := fun j q => sD_n _ _ q
  have kj : ∀ j, j ≠ 6 → uv K 0 6 1 0 j = K 0 j := fun j q => uv_n _ _ _ _ _ _ (fun w => q w.2)
  have k6 : uv K 0 6 1 0 6 = 1 := uv_s _ _ _ _
  have k5 : bz (uv K 0 6 1 0 5) = bz (K 0 5) := by rw [kj 5 (by decide)]
  have rk := r.K k k4
  rw [wk] at rk
  obtain ⟨c1, c2, c3, c4⟩ := rk
  have d5 : D (17 + 96 * k + 5) = nI m := by
    have := r.M k k4 (by rw [wk]; exact uw) (fun z => by cases z)
    rw [wk] at this
    exact this.trans h4
  refine r.wch k4 (Or.inl rfl) (r.B.dd (fun j q => o j (by omega)) (fun q h0 h5 _ => by rw [tz_k V' q h0]; exact kv q h5) ⟨?_, ?_, ?_, ?_⟩) (fun j _ _ q => o j (by omega)) w1 ?_ ⟨m, 0, ?_, ?_, tz_16 V', by omega, by omega, ?_, fun j hj => by omega⟩
  · rw [tz_0 V' (by decide), kv 0 (by decide)]
  · rw [tz_0 V' (by decide), kv 0 (by decide)]
  · rw [tz_0 V' (by decide), kv 0 (by decide)]
  · rw [tz_0 V' (by decide), kv 0 (by decide)]
  · rw [wk']
    refine ⟨?_, fun q => ?_, fun q j hj h2 => ?_, fun q j hj h2 => ?_⟩
    · show sD D (17 + 96 * k + 1) 1 (17 + 96 * k + 0) = bz (uv K 0 6 1 0 5)
      rw [o _ (by omega), k5]; exact c1
    · obtain ⟨a1, a2, a3, a4⟩ := c2 uw
      show sD D (17 + 96 * k + 1) 1 (17 + 96 * k + 1) = bz (uv K 0 6 1 0 6) ∧ sD D (17 + 96 * k + 1) 1 (17 + 96 * k + 2) = uv K 0 6 1 0 7 ∧ sD D (17 + 96 * k + 1) 1 (17 + 96 * k + 3) = uv K 0 6 1 0 8 ∧ sD D (17 + 96 * k + 1) 1 (17 + 96 * k + 4) = P 0 1
      rw [sD_s, k6, o _ (by omega), o _ (by omega), o _ (by omega), kj 7 (by decide), kj 8 (by decide)]
      exact ⟨rfl, a2, a3, a4⟩
    · rw [o _ (by omega)]
      exact c3 uw j hj h2
    · have h2 : j < ix (uv K 0 6 1 0 4) := h2
      rw [kj 4 (by decide)] at h2
      rw [o _ (by omega), o _ (by omega), o _ (by omega)]
      exact c4 uw j hj h2
  · rw [wk']
    show ¬ bz (uv K 0 6 1 0 5) = 0
    rw [k5]; exact uw
  · rw [wk']
    exact (kj 4 (by decide)).trans h4
  · rw [o _ (by omega)]; exact d5
end
section
/-! A walk that begins anew, on both sides. -/
theorem w_sweeps {J : MJ} (h : RefL J) (I : MI) (D G : RowV) (c : Int32) (h1 : CHd D) (h2 : CHw D) (h3 : CEd D) (hb : I 188 20 = -1) : ∃ G', M_X10_sweeps [mR (some 188)] (rF I D G c, J) = some (none, (rF I (itr (swD G') 0 128 D) G' c, J)) ∧ ∀ e, e < 128 → G' e = nI (eF D e + hF D e) := by
  obtain ⟨G', g1, g2⟩ := w_counts h I D G c h1 h2 h3 (Or.inl hb)
  refine ⟨G', ?_, fun e he => ?_⟩
  · rw [E_X10_sweeps]
    simp only [h.kt, if_true, g1, Option.bind_some, asV_n]
    have s1 := loop_all (fun k D => Ev T_X10_sweeps 6 [some (mR (some 188)), some (mI (nI k))] [] (rF I D G' c, J)) (swD G') 128 D (fun k D hk => by
      try dsimp only
      rw [E_X10_sweeps_6, if_neg (show ¬ (128 : Int32) ≤ nI k from nI_ge hk (by decide))]
      simp only [h.kt, if_true, w_its h _ 0 (show (0 : Int32) = nI 0 from rfl) hk (by decide), w_its h _ 8 (show (8 : Int32) = nI 8 from rfl) hk (by decide), Option.bind_some, asI_I, rF_D, rF_G, nI_1, h.f19, h.f18, h.ldG _ rfl hk, w_entryAt _ k 0 (show (0 : Int32) = nI 0 from rfl), h.stD _ _ rfl (show 701 + 9 * k + 0 < 1853 by omega), rF_sD]
      unfold swD
      by_cases a : D (701 + 9 * k + 0) = 1
      · rw [if_pos a]
        by_cases b : D (701 + 9 * k + 8) = 1
        · rw [if_pos b]
          by_cases d : G' k = 0
          · rw [if_pos d, if_pos ⟨a, b, d⟩]
          · rw [if_neg d, if_neg (fun z => d z.2.2)]
        · rw [if_neg b, if_neg (fun z => b z.2.1)]
      · rw [if_neg a, if_neg (fun z => a z.1)])
    try dsimp only at s1
    rw [show (nI 0) = 0 from rfl] at s1
    rw [s1, E_X10_sweeps_6, if_pos (show (128 : Int32) ≤ nI 128 by decide)]
  · rw [g2 e he, hb, if_neg (fun z => nI_m1 (show e < 2 ^ 31 by omega) z.symm), Nat.add_zero]
theorem Rel.sweeps2 {U : NodV} {V V' : MemV} {H : OneV} {W : WkV} {D D2 : RowV} {n vol t T k : Nat} {x : Nat → Nat} (r : Rel none U V H W D n) (i : Inv U V H W n vol t T x) (k4 : k < 4) {J : MJ} (h : RefL J) (I : MI) (hb : I 188 20 = -1) (G : RowV) (c : Int32) (kk : ∀ q : Fin 12, q ≠ 0 → q ≠ 1 → q ≠ 5 → q ≠ 11 → V' q = V q) (k0 : V' 0 11 = V 0 11 ∧ V' 0 12 = V 0 12 ∧ V' 0 13 = V 0 13 ∧ V' 0 14 = V 0 14) (k1 : ∀ f, f < 64 → V' 1 f = if V 1 f = 2 ∧ hc V H W f = 0 then 0 else V 1 f) (w0 : bz ((W k).1 0 5) = 0) (hD : ∀ j, j < 17 + 96 * k ∨ 17 + 96 * k + 96 ≤ j → D2 j = D j) (h2 : D2 (17 + 96 * k + 0) = 0 ∨ D2 (17 + 96 * k + 1) = 0) : ∃ D' D2' G', M_X10_sweeps [mR (some 188)] (rF I D2 G c, J) = some (none, (rF I D2' G' c, J)) ∧ Rel none U V' H W D' n ∧ (∀ j, j < 17 + 96 * k ∨ 17 + 96 * k + 96 ≤ j → D2' j = D' j) ∧ ∀ j, 17 + 96 * k ≤ j → j < 17 + 96 * k + 96 → D2' j = D2 j := by
  obtain ⟨D', G1, s1, r1⟩ := r.sweeps i h I hb G c kk k0 k1
  obtain ⟨c1, c2, c3⟩ := r.ch i
  obtain ⟨Ga, a1, a2⟩ := w_sweeps h I D G c c1 c2 c3 hb
  have eD : itr (swD Ga) 0 128 D = D' := by
    have e0 := a1.symm.trans s1
    have e1 : rF I (itr (swD Ga) 0 128 D) Ga c = rF I D' G1 c := by
      injection e0 with e0
      injection e0 with _ e0
      injection e0
    have := congrFun e1 194
    rw [rF_D, rF_D] at this
    exact this
  have d1 : CHd D2 := fun j hj => by rw [hD (11 + j) (by omega)]; exact c1 j hj
  have d2 : CHw D2 := fun w hw q0 q1 => by
    by_cases z : w = k
    · subst z
      exact absurd h2 (fun y => y.elim q0 q1)
    · rw [hD (17 + 96 * w + 0) (by omega)] at q0
      rw [hD (17 + 96 * w + 1) (by omega)] at q1
      obtain ⟨m, m1, m2, m3⟩ := c2 w hw q0 q1
      exact ⟨m, m1, by rw [hD (17 + 96 * w + 5) (by omega)]; exact m2, fun j hj => by rw [hD (17 + 96 * w + (18 + 3 * j)) (by omega)]; exact m3 j hj⟩
  have d3 : CEd D2 := fun j hj q => by
    rw [hD _ (by omega)] at q
    rw [hD _ (by omega)]
    exact c3 j hj q
  obtain ⟨Gb, g1, g2⟩ := w_sweeps h I D2 G c d1 d2 d3 hb
  have gg : ∀ e, e < 128 → Gb e = Ga e := fun e he => by
    rw [a2 e he, g2 e he]
    have ee : eF D2 e = eF D e := by
      unfold eF
      have c0 : cnt (fun j => decide (¬ D2 (701 + 9 * j + 0) = 0 ∧ D2 (701 + 9 * j + 1) = nI e)) 0 128 = cnt (fun j => decide (¬ D (701 + 9 * j + 0) = 0 ∧ D (701 + 9 * j + 1) = nI e)) 0 128 := cnt_cong (fun j _ hj => by rw [hD _ (by omega), hD _ (by omega)])
      rw [c0, hD _ (by omega), hD _ (by omega)]
    have hh : hF D2 e = hF D e := by
      unfold hF
      have c0 : cnt (fun j => decide (D2 (11 + j) = nI e)) 0 6 = cnt (fun j => decide (D (11 + j) = nI e)) 0 6 := cnt_cong (fun j _ hj => by rw [hD (11 + j) (by omega)])
      have s0 : sm (fun w => wF D2 w e) 0 4 = sm (fun w => wF D w e) 0 4 := sm_cong (fun w _ hw => by
        show wF D2 w e = wF D w e
        unfold wF
        by_cases z : w = k
        · subst z
          rw [if_pos h2, if_pos (Or.inl (by rw [(r.K w k4).ws]; exact w0))]
        · rw [hD (17 + 96 * w + 0) (by omega), hD (17 + 96 * w + 1) (by omega), hD (17 + 96 * w + 5) (by omega)]
          by_cases y : D (17 + 96 * w + 0) = 0 ∨ D (17 + 96 * w + 1) = 0
          · rw [if_pos y, if_pos y]
          · rw [if_neg y, if_neg y]
            obtain ⟨m, m1, m2, _⟩ := c2 w (by omega) (fun q => y (Or.inl q)) (fun q => y (Or.inr q))
            rw [m2, ix_nI (by omega)]
            exact cnt_cong (fun j _ hj => by rw [hD (17 + 96 * w + (18 + 3 * j)) (by omega)]))
      rw [c0, s0]
    rw [ee, hh]
  refine ⟨D', _, Gb, g1, r1, fun j hj => ?_, fun j p q => itr_sw Gb 128 0 D2 j (fun e _ b => by omega)⟩
  rw [← eD]
  by_cases z : ∃ e, e < 128 ∧ j = 701 + 9 * e + 0
  · obtain ⟨e, e1, e2⟩ := z
    subst e2
    rw [itr_sw_at Gb 128 0 D2 e (Nat.zero_le _) (by omega), itr_sw_at Ga 128 0 D e (Nat.zero_le _) (by omega), gg e e1, hD _ (by omega), hD _ (by omega)]
  · rw [itr_sw Gb 128 0 D2 j (fun e _ b y => z ⟨e, by omega, y⟩), itr_sw Ga 128 0 D j (fun e _ b y => z ⟨e, by omega, y⟩), hD j hj]
theorem Rel.set1 {U : NodV} {V : MemV} {H : OneV} {W W' : WkV} {D : RowV} {n k : Nat} (r : Rel (some k) U V H W D n) {K K' : OneV} {P : RouV} {B : TriV} (wk : W k = (K, P, B)) {v : Int32} (w1 : ∀ j, j ≠ k → W' j = W j) (wk' : W' k = (K', P, B)) (kj : ∀ j, j ≠ 6 → K' 0 j = K 0 j) (k6 : bz (K' 0 6) = v) : Rel (some k) U V H W' (sD D (17 + 96 * k + 1) v) n := by
  obtain ⟨k4, m, tl, t1, t2, t3, t4, t5, t6, t7⟩ := r.T k rfl
  obtain ⟨c1, c2, c3, c4⟩ := r.K k k4
  rw [wk] at c1 c2 c3 c4 t1 t2
  have o : ∀ j, j ≠ 17 + 96 * k + 1 → sD D (17 + 96 * k + 1) v j = D j := fun j q => sD_n _ _ q
  have k5 : bz (K' 0 5) = bz (K 0 5) := by rw [kj 5 (by decide)]
  refine r.wch k4 (Or.inr rfl) (r.B.dd (fun j q => o j (by omega)) (fun _ _ _ _ => rfl) ⟨rfl, rfl, rfl, rfl⟩) (fun j _ _ q => o j (by omega)) w1 ?_ ⟨m, tl, ?_, ?_, t3, t4, t5, ?_, fun j hj => ?_⟩
  · rw [wk']
    refine ⟨?_, fun q => ?_, fun q j hj h2 => ?_, fun q j hj h2 => ?_⟩
    · show sD D (17 + 96 * k + 1) v (17 + 96 * k + 0) = bz (K' 0 5)
      rw [o _ (by omega), k5]; exact c1
    · have q : ¬ bz (K' 0 5) = 0 := q
      rw [k5] at q
      obtain ⟨a1, a2, a3, a4⟩ := c2 q
      show sD D (17 + 96 * k + 1) v (17 + 96 * k + 1) = bz (K' 0 6) ∧ sD D (17 + 96 * k + 1) v (17 + 96 * k + 2) = K' 0 7 ∧ sD D (17 + 96 * k + 1) v (17 + 96 * k + 3) = K' 0 8 ∧ sD D (17 + 96 * k + 1) v (17 + 96 * k + 4) = P 0 1
      rw [sD_s, k6, o _ (by omega), o _ (by omega), o _ (by omega), kj 7 (by decide), kj 8 (by decide)]
      exact ⟨rfl, a2, a3, a4⟩
    · have q : ¬ bz (K' 0 5) = 0 := q
      rw [k5] at q
      rw [o _ (by omega)]
      exact c3 q j hj h2
    · have q : ¬ bz (K' 0 5) = 0 := q
      rw [k5] at q
      have h2 : j < ix (K' 0 4) := h2
      rw [kj 4 (by decide)] at h2
      rw [o _ (by omega), o _ (by omega), o _ (by omega)]
      exact c4 q j hj h2
  · rw [wk']
    show ¬ bz (K' 0 5) = 0
    rw [k5]; exact t1
  · rw [wk']
    exact (kj 4 (by decide)).trans t2
  · rw [o _ (by omega)]; exact t6
  · rw [o _ (by omega), o _ (by omega), o _ (by omega)]; exact t7 j hj
theorem Rel.restart {U : NodV} {V : MemV} {H : OneV} {W : WkV} {D : RowV} {n vol t T k : Nat} (r : Rel none U V H W D n) (i : Inv U V H W n vol t T (fun _ => 0)) (C : CntI V) {J : MJ} (h : RefL J) (I : MI) (hb : I 188 20 = -1) (hw21 : I 188 21 = -1) (G : RowV) (c : Int32) (k4 : k < 4) {K : OneV} {P : RouV} {B : TriV} {m d l rr : Nat} (wk : W k = (K, P, B)) (uw : ¬ bz (K 0 5) = 0) (wi : WkI V t T (K, P, B) m d l rr) (r2 : rr ≤ 2) (tT : t + 1 ≤ T) : ∃ D' G' c' ro, M_X10_restarts [mR (some 188), mI (nI k)] (rF I D G c, J) = some (none, (rF I D' G' c', J)) ∧ Rel (some k) U (tz (gV_X7_goToRoot (uv (uv K 0 7 (K 0 7 + 1)) 0 6 1) B (gV_X7_letGo K B V))) H (wkS W k (gK_X7_goToRoot (uv (uv K 0 7 (K 0 7 + 1)) 0 6 1) B (gV_X7_letGo K B V), P, gB_X7_goToRoot (uv (uv K 0 7 (K 0 7 + 1)) 0 6 1) B (gV_X7_letGo K B V))) D' n ∧ Inv U (gV_X7_goToRoot (uv (uv K 0 7 (K 0 7 + 1)) 0 6 1) B (gV_X7_letGo K B V)) H (wkS W k (gK_X7_goToRoot (uv (uv K 0 7 (K 0 7 + 1)) 0 6 1) B (gV_X7_letGo K B V), P, gB_X7_goToRoot (uv (uv K 0 7 (K 0 7 + 1)) 0 6 1) B (gV_X7_letGo K B V))) n vol (t + 1) T (fun _ => 0) ∧ CntI (gV_X7_goToRoot (uv (uv K 0 7 (K 0 7 + 1)) 0 6 1) B (gV_X7_letGo K B V)) ∧ WkI (gV_X7_goToRoot (uv (uv K 0 7 (K 0 7 + 1)) 0 6 1) B (gV_X7_letGo K B V)) (t + 1) T (gK_X7_goToRoot (uv (uv K 0 7 (K 0 7 + 1)) 0 6 1) B (gV_X7_letGo K B V), P, gB_X7_goToRoot (uv (uv K 0 7 (K 0 7 + 1)) 0 6 1) B (gV_X7_letGo K B V)) 1 0 l (rr + 1) ∧ gB_X7_goToRoot (uv (uv K 0 7 (K 0 7 + 1)) 0 6 1) B (gV_X7_letGo K B V) 0 0 = nI ro ∧ At (gV_X7_goToRoot (uv (uv K 0 7 (K 0 7 + 1)) 0 6 1) B (gV_X7_letGo K B V)) ro ∧ gK_X7_goToRoot (uv (uv K 0 7 (K 0 7 + 1)) 0 6 1) B (gV_X7_letGo K B V) 0 5 = K 0 5 := by
  have n60 := i.N.n60
  have e7 : K 0 7 = nI rr := wi.r
  have el : P 0 1 = nI l := wi.l
  have l12 := wi.l12
  have w1 : ∀ (x : OneV × RouV × TriV) j, j ≠ k → wkS W k x j = W j := fun x j q => wkS_n W x q
  have w0 : bz ((wkS W k (uv K 0 5 0, P, B) k).1 0 5) = 0 := by
    rw [wkS_s]
    show bz (uv K 0 5 0 0 5) = 0
    rw [uv_s]
    rfl
  have rf := r.wsub n60 k4 (w1 (uv K 0 5 0, P, B)) w0
  have i1 := i.wsub k4 (w1 (uv K 0 5 0, P, B)) w0
  obtain ⟨i2, v1, kV⟩ := i.stop k4 (by rw [wk]; exact uw) (w1 (uv K 0 5 0, P, B)) w0
  have rk := r.K k k4
  rw [wk] at rk i2 v1 kV
  obtain ⟨c1, c2, c3, c4⟩ := rk
  obtain ⟨u1, u2, u3, u4⟩ := c2 uw
  have i2 : Inv U (gV_X7_letGo K B V) H (wkS W k (uv K 0 5 0, P, B)) n vol t T (fun _ => 0) := i2
  have v1 : ∀ f, f < 64 → gV_X7_letGo K B V 1 f = if V 1 f = 2 ∧ hc V H (wkS W k (uv K 0 5 0, P, B)) f = 0 then 0 else V 1 f := v1
  have kV : ∀ q : Fin 12, q ≠ 1 → q ≠ 5 → gV_X7_letGo K B V q = V q := kV
  unfold gV_X7_goToRoot gK_X7_goToRoot gB_X7_goToRoot
  have C1 : CntI (gV_X7_letGo K B V) := C.sub (fun f hf q => by
    rw [v1 f hf] at q
    by_cases z : V 1 f = 2 ∧ hc V H (wkS W k (uv K 0 5 0, P, B)) f = 0
    · rw [if_pos z] at q; exact absurd rfl q
    · rw [if_neg z] at q; exact q) (kV 9 (by decide) (by decide))
  generalize gV_X7_letGo K B V = V1 at i2 v1 kV C1 ⊢
  have e71 : K 0 7 + 1 = nI (rr + 1) := by rw [e7, nI_1]
  rw [e71]
  -- the row: light, its way forgotten
  have oa : ∀ j, j ≠ 17 + 96 * k + 1 → j ≠ 17 + 96 * k + 5 → sD (sD D (17 + 96 * k + 1) 0) (17 + 96 * k + 5) 0 j = D j := fun j a b => by rw [sD_n _ _ b, sD_n _ _ a]
  have oa1 : sD (sD D (17 + 96 * k + 1) 0) (17 + 96 * k + 5) 0 (17 + 96 * k + 1) = 0 := by rw [sD_n _ _ (by omega), sD_s]
  obtain ⟨D', D2, G', s1, r3, od, id⟩ := rf.sweeps2 i1 k4 h I hb G c (V' := V1) (D2 := sD (sD D (17 + 96 * k + 1) 0) (17 + 96 * k + 5) 0) (fun q _ p1 p5 _ => kV q p1 p5) ⟨by rw [kV 0 (by decide) (by decide)], by rw [kV 0 (by decide) (by decide)], by rw [kV 0 (by decide) (by decide)], by rw [kV 0 (by decide) (by decide)]⟩ v1 w0 (fun j hj => by rw [oa j (by omega) (by omega), sD_n _ _ (by omega)]) (Or.inr oa1)
  have d22 : D2 (17 + 96 * k + 2) = nI rr := by rw [id _ (by omega) (by omega), oa _ (by omega) (by omega), u2]; exact e7
  -- it begins anew
  generalize hK2 : uv (uv (uv (uv K 0 7 (nI (rr + 1))) 0 6 1) 0 4 0) 0 8 0 = K2
  have k24 : K2 0 4 = nI 0 := by rw [← hK2]; rfl
  have k28 : K2 0 8 = nI 0 := by rw [← hK2]; rfl
  have k27 : K2 0 7 = nI (rr + 1) := by rw [← hK2]; rfl
  have k25 : K2 0 5 = K 0 5 := by rw [← hK2]; rfl
  have k26 : K2 0 6 = 1 := by rw [← hK2]; rfl
  have k3j : ∀ j, j ≠ 6 → uv K2 0 6 0 0 j = K2 0 j := fun j q => uv_n _ _ _ _ _ _ (fun w => q w.2)
  have k36 : uv K2 0 6 0 0 6 = 0 := uv_s _ _ _ _
  have uw2 : ¬ bz (K2 0 5) = 0 := by rw [k25]; exact uw
  have oc : ∀ j, j ≠ 17 + 96 * k + 2 → j ≠ 17 + 96 * k + 5 → j ≠ 17 + 96 * k + 3 → sD (sD (sD D2 (17 + 96 * k + 2) (nI (rr + 1))) (17 + 96 * k + 5) 0) (17 + 96 * k + 3) 0 j = D2 j := fun j a b d => by rw [sD_n _ _ d, sD_n _ _ b, sD_n _ _ a]
  have ocd : ∀ j, j < 17 + 96 * k ∨ 17 + 96 * k + 96 ≤ j → sD (sD (sD D2 (17 + 96 * k + 2) (nI (rr + 1))) (17 + 96 * k + 5) 0) (17 + 96 * k + 3) 0 j = D' j := fun j q => by rw [oc j (by omega) (by omega) (by omega), od j q]
  have oci : ∀ f, f < 96 → f ≠ 1 → f ≠ 5 → f ≠ 2 → f ≠ 3 → sD (sD (sD D2 (17 + 96 * k + 2) (nI (rr + 1))) (17 + 96 * k + 5) 0) (17 + 96 * k + 3) 0 (17 + 96 * k + f) = D (17 + 96 * k + f) := fun f hf a b d e => by rw [oc _ (by omega) (by omega) (by omega), id _ (by omega) (by omega), oa _ (by omega) (by omega)]
  have r4 : Rel (some k) U (tz V1) H (wkS W k (uv K2 0 6 0, P, B)) (sD (sD (sD D2 (17 + 96 * k + 2) (nI (rr + 1))) (17 + 96 * k + 5) 0) (17 + 96 * k + 3) 0) n := by
    refine r3.wch k4 (Or.inl rfl) (r3.tzi.B.dd (fun j q => ocd j (by omega)) (fun _ _ _ _ => rfl) ⟨rfl, rfl, rfl, rfl⟩) (fun j _ _ q => ocd j q) (fun j q => by rw [w1 _ j q, w1 _ j q]) ?_ ⟨0, 0, ?_, ?_, tz_16 _, by omega, by omega, ?_, fun j hj => by omega⟩
    · rw [wkS_s]
      refine ⟨?_, fun _ => ⟨?_, ?_, ?_, ?_⟩, fun _ j hj h2 => ?_, fun _ j hj h2 => ?_⟩
      · show _ = bz (uv K2 0 6 0 0 5)
        rw [oci 0 (by omega) (by omega) (by omega) (by omega) (by omega), k3j 5 (by decide), k25]; exact c1
      · show _ = bz (uv K2 0 6 0 0 6)
        rw [oc _ (by omega) (by omega) (by omega), id _ (by omega) (by omega), oa1, k36]; rfl
      · show _ = uv K2 0 6 0 0 7
        rw [sD_n _ _ (by omega), sD_n _ _ (by omega), sD_s, k3j 7 (by decide), k27]
      · show _ = uv K2 0 6 0 0 8
        rw [sD_s, k3j 8 (by decide), k28]; rfl
      · show _ = P 0 1
        rw [oci 4 (by omega) (by omega) (by omega) (by omega) (by omega)]; exact u4
      · rw [oci (6 + j) (by omega) (by omega) (by omega) (by omega) (by omega)]
        exact c3 uw j hj h2
      · have h2 : j < ix (uv K2 0 6 0 0 4) := h2
        rw [k3j 4 (by decide), k24, show ix (nI 0) = 0 from rfl] at h2
        omega
    · rw [wkS_s]
      show ¬ bz (uv K2 0 6 0 0 5) = 0
      rw [k3j 5 (by decide)]; exact uw2
    · rw [wkS_s]; exact (k3j 4 (by decide)).trans k24
    · rw [sD_n _ _ (by omega), sD_s]; rfl
  obtain ⟨ro, hr, ra⟩ := i2.M.root0 i2.N
  obtain ⟨D5, bw, r5⟩ := r4.begW n60 h I hw21 G' c (by rw [wkS_s]; exact (k3j 4 (by decide)).trans k24) hr ra
  obtain ⟨i3, c16, c11, ca, cr1, cr9⟩ := i2.ctr hr ra tT
  have r6 := r5.set1 (W' := wkS W k (K2, P, B)) (wkS_s _ _ _) (fun j q => by rw [w1 _ j q, w1 _ j q]) (wkS_s _ _ _) (fun j q => (k3j j q).symm) (show bz (K2 0 6) = 1 by rw [k26]; rfl)
  have o := tkt_all (m := 0) (tl := 1) (K := K2) (B := B) (by omega) (by omega) k24 c16 (fun j hj => by
    have : j = 0 := by omega
    subst this
    exact ⟨ro, c11, ca⟩)
  generalize gK_X7_takeTrail K2 B (gV_X1_comeToRoot V1) = K' at o ⊢
  generalize gB_X7_takeTrail K2 B (gV_X1_comeToRoot V1) = B' at o ⊢
  generalize gV_X7_takeTrail K2 B (gV_X1_comeToRoot V1) = V' at o ⊢
  have kv : ∀ r : Fin 12, r ≠ 5 → V' r = gV_X1_comeToRoot V1 r := o.2.2.2.2.1
  obtain ⟨i4, wi4, b0⟩ := i3.wnew (W' := wkS W k (K', P, B')) k4 w0 (fun j q => by rw [w1 _ j q, w1 _ j q]) (wkS_s _ _ _) l12 (by omega : rr + 1 ≤ 3) k24 k28 el k27 uw2 c11 ca o
  rw [wkS_s] at wi4
  refine ⟨sD D5 (17 + 96 * k + 1) 1, G', nI ro, ro, ?_, r6.tk (wkS_s _ _ _) (fun j q => by rw [w1 _ j q, w1 _ j q]) (wkS_s _ _ _) k24 c16 (by omega) (by omega) o, i4, C1.fr ((kv 1 (by decide)).trans cr1) ((kv 9 (by decide)).trans cr9), wi4, b0, ⟨ca.1, by rw [kv 1 (by decide)]; exact ca.2.1, by rw [kv 4 (by decide)]; exact ca.2.2⟩, (o.2.1 5 (by decide)).trans k25⟩
  rw [E_X10_restarts]
  simp only [h.f18, Option.bind_some, w_walkerAt _ k 1 (show (1 : Int32) = nI 1 from rfl), w_walkerAt _ k 5 (show (5 : Int32) = nI 5 from rfl), w_walkerAt _ k 2 (show (2 : Int32) = nI 2 from rfl), asI_I, h.stD _ _ (show nI (17 + 96 * k + 1) = nI (17 + 96 * k + 1) from rfl) (show 17 + 96 * k + 1 < 1853 by omega), h.stD _ _ (show nI (17 + 96 * k + 5) = nI (17 + 96 * k + 5) from rfl) (show 17 + 96 * k + 5 < 1853 by omega), h.stD _ _ (show nI (17 + 96 * k + 2) = nI (17 + 96 * k + 2) from rfl) (show 17 + 96 * k + 2 < 1853 by omega), h.ldD _ (show nI (17 + 96 * k + 2) = nI (17 + 96 * k + 2) from rfl) (show 17 + 96 * k + 2 < 1853 by omega), rF_sD, rF_D, h.kt, if_true, s1, asV_n, d22, nI_1, bw]
end
section
/-! A walker goes on, on both sides. -/
theorem wkS_ss (W : WkV) (k : Nat) (w w' : OneV × RouV × TriV) : wkS (wkS W k w) k w' = wkS W k w' := by
  funext j
  unfold wkS
  by_cases z : j = k
  · rw [if_pos z, if_pos z]
  · rw [if_neg z, if_neg z, if_neg z]
theorem wkS_id (W : WkV) (k : Nat) {w : OneV × RouV × TriV} (h : W k = w) : wkS W k w = W := by
  funext j
  unfold wkS
  by_cases z : j = k
  · rw [if_pos z, z, h]
  · rw [if_neg z]
/-- it may stop here -/
def Ovb (U : NodV) (V : MemV) (H : OneV) (W : WkV) (D : RowV) (n k : Nat) : Prop := ∀ (W' : WkV) (D' : RowV), (∀ j, j < 17 + 96 * k ∨ 17 + 96 * k + 96 ≤ j → D' j = D j) → D' (17 + 96 * k + 0) = 0 → (∀ j, j ≠ k → W' j = W j) → bz ((W' k).1 0 5) = 0 → Rel none U V H W' D' n
theorem Rel.ovb {U : NodV} {V V' : MemV} {H : OneV} {W : WkV} {D : RowV} {n k : Nat} (r : Rel (some k) U V' H W D n) (hv : V' = V ∨ V' = tz V) : Ovb U V H W D n k := by
  intro W' D' hD h0 w1 w0
  have k4 := (r.T k rfl).1
  have := r.wover k4 (Or.inr rfl) hD h0 w1 w0
  rcases hv with z | z
  · rw [← z]; exact this
  · rw [z] at this
    exact this.fr (this.B.fr (tz_sym V).1 (tz_sym V).2) (fun _ _ _ => rfl) (fun k z => by cases z)
/-- what a walker that went on has come to: q, its walker, the memory; the reference's row, and how its call goes on -/
def Gon (U : NodV) (H : OneV) (W0 : WkV) (n vol T k : Nat) (P : RouV) (l rr : Nat) (K0 : OneV) (I : MI) (J : MJ) (o : Int32 × OneV × TriV × MemV) (t : Nat) (ev : Option MO) : Prop := ∃ D' G' c' t' m' d' mm, t' ≤ t ∧ Inv U o.2.2.2 H (wkS W0 k (o.2.1, P, o.2.2.1)) n vol t' T (fun _ => 0) ∧ CntI o.2.2.2 ∧ (o.2.1 0 5 = K0 0 5 ∧ o.2.1 0 6 = K0 0 6 ∧ o.2.1 0 7 = K0 0 7) ∧ WkI o.2.2.2 t' T (o.2.1, P, o.2.2.1) m' d' l rr ∧ Ovb U o.2.2.2 H (wkS W0 k (o.2.1, P, o.2.2.1)) D' n k ∧ (1 ≤ mm ∧ mm ≤ 25 ∧ D' (17 + 96 * k + 5) = nI mm) ∧ (D' (17 + 96 * k + 1) = bz (o.2.1 0 6) ∧ D' (17 + 96 * k + 2) = o.2.1 0 7) ∧ ((∃ a', o.1 = nI a' ∧ At o.2.2.2 a' ∧ D' (17 + 96 * k + (18 + 3 * (mm - 1))) = nI a' ∧ D' (701 + 9 * a' + 3) = o.2.2.2 4 a' ∧ Rel (some k) U (tz o.2.2.2) H (wkS W0 k (o.2.1, P, o.2.2.1)) D' n ∧ (q_X7_isThrough 12 o.2.1 P = 0 → ¬ rr = 3) ∧ ev = if q_X7_isThrough 12 o.2.1 P = 0 then some (some (mI 0), (rF I D' G' c', J)) else (M_X10_isOver [mR (some 188), mI (nI k), mI 0] (rF I D' G' c', J)).bind fun u3 => (asI u3.1).bind fun y4 => some (some (mI y4), u3.2)) ∨ ((o.1 = -2 ∨ o.1 = -3) ∧ ev = (M_X10_isOver [mR (some 188), mI (nI k), mI o.1] (rF I D' G' c', J)).bind fun u3 => (asI u3.1).bind fun y4 => some (some (mI y4), u3.2)))
theorem thr_q {K : OneV} {P : RouV} {d l : Nat} (h8 : K 0 8 = nI d) (hl : P 0 1 = nI l) (dl : d ≤ l) (l12 : l ≤ 12) : q_X7_isThrough 12 K P = if d = l then 1 else 0 := by
  unfold q_X7_isThrough
  rw [h8, hl]
  by_cases z : d = l
  · rw [if_pos z, z, if_neg Int32.lt_irrefl]
  · rw [if_neg z, if_pos (nI_lt (by omega) (by omega))]
theorem w_isThrough {J : MJ} (h : RefL J) (I : MI) {k d l : Nat} (k4 : k < 4) (u3 : I 194 (17 + 96 * k + 3) = nI d) (u4 : I 194 (17 + 96 * k + 4) = nI l) (hd : d < 1000) (hl : l < 1000) : M_X10_isThrough [mR (some 188), mI (nI k)] (I, J) = some (some (mI (if d = l then 1 else 0)), (I, J)) := by
  rw [E_X10_isThrough]
  simp only [h.kt, if_true, w_walkerHas h I 3 (show (3 : Int32) = nI 3 from rfl) k4 (by decide), w_walkerHas h I 4 (show (4 : Int32) = nI 4 from rfl) k4 (by decide), Option.bind_some, asI_I, u3, u4]
  by_cases z : d = l
  · rw [if_pos z, z]
    simp
  · rw [if_neg z, if_neg (fun y => z ((nI_eq (by omega) (by omega)).mp y))]
    simp
theorem goOn_neg (L : Nat) (P : RouV) (U : NodV) (x2 : Int32) (nn k : Nat) {x : Int32} (h : x < 0) (K : OneV) (B : TriV) (V : MemV) : lp_X7_goOn_89 L P U x2 nn k x K B V = (x, K, B, V) := by
  cases nn with
  | zero => rfl
  | succ nn => exact if_pos h
theorem step_loop {U : NodV} {H : OneV} {W0 : WkV} {n vol T k : Nat} {J : MJ} (h : RefL J) (I : MI) (hb : I 188 20 = -1) (hw21 : I 188 21 = -1) {P : RouV} {l rr : Nat} {x2 at1 : Int32} (hat : at1 = if rr = 3 then 1 else 0) {K0 : OneV} : ∀ (nn j : Nat) (V : MemV) (D G : RowV) (c : Int32) (K : OneV) (B : TriV) (m d t a : Nat), Rel (some k) U (tz V) H (wkS W0 k (K, P, B)) D n → Inv U V H (wkS W0 k (K, P, B)) n vol t T (fun _ => 0) → CntI V → WkI V t T (K, P, B) m d l rr → ¬ bz (K 0 5) = 0 → (K 0 5 = K0 0 5 ∧ K 0 6 = K0 0 6 ∧ K 0 7 = K0 0 7) → B 0 (m - 1) = nI a → At V a → t + 2 * nn ≤ T → (rr = 3 → l - d ≤ nn) → (¬ rr = 3 → nn ≤ 1) → Gon U H W0 n vol T k P l rr K0 I J (lp_X7_goOn_89 12 P U x2 nn j (nI a) K B V) (t + 2 * nn) (Ev T_X10_step 60 [some (mR (some 188)), some (mI (nI k)), some (mI at1), some (mI 0), some (mI (if nn = 0 ∧ ¬ rr = 3 then 0 else 1))] [] (rF I D G c, J)) := by
  intro nn
  induction nn with
  | zero =>
    intro j V D G c K B m d t a r i C wi uw k0 last ha tT hl hn
    have b1 := wi.md
    have b2 := wi.dl
    have b3 := wi.l12
    have b4 := wi.m1
    have e4 : K 0 4 = nI m := wi.m
    have e8 : K 0 8 = nI d := wi.d
    have el : P 0 1 = nI l := wi.l
    obtain ⟨k4, m', tl', t1, t2, t3, t4, t5, t6, _⟩ := r.T k rfl
    have z : tl' = 0 := (nI_eq (by omega) (by omega)).mp (t3.symm.trans (tz_16 V))
    subst z
    rw [wkS_s] at t2
    have mm : m' = m := (nI_eq (by omega) (by omega)).mp (t2.symm.trans e4)
    subst mm
    have rk := r.K k k4
    rw [wkS_s] at rk
    obtain ⟨u1, u2, u3, u4⟩ := rk.un uw
    have u3 : D (17 + 96 * k + 3) = nI d := u3.trans e8
    have u4 : D (17 + 96 * k + 4) = nI l := u4.trans el
    have wy := (rk.wy uw (m' - 1) (by omega) (by show m' - 1 < ix (K 0 4); rw [e4, ix_nI (by omega)]; omega)).1
    have nh : ∀ f, f < 96 → ∀ (z : Int32), z = nI f → M_X10_walkerHas [mR (some 188), mI (nI k), mI z] (rF I D G c, J) = some (some (mI (D (17 + 96 * k + f))), (rF I D G c, J)) := fun f hf z hz => by
      rw [w_walkerHas h _ f hz k4 hf, rF_D]
    have thr := thr_q e8 el b2 b3
    have thE : M_X10_isThrough [mR (some 188), mI (nI k)] (rF I D G c, J) = some (some (mI (if d = l then 1 else 0)), (rF I D G c, J)) := w_isThrough h _ k4 (by rw [rF_D]; exact u3) (by rw [rF_D]; exact u4) (by omega) (by omega)
    have en := r.B.en a ha.1 (by rw [tz_k V 1 (by decide), ha.2.1]; exact i10)
    refine ⟨D, G, c, t, m', d, m', by omega, i, C, k0, wi, r.ovb (Or.inr rfl), ⟨b4, by omega, t6⟩, ⟨u1, u2⟩, Or.inl ⟨a, rfl, ha, wy.trans last, (show D (701 + 9 * a + 3) = V 4 a by rw [en.2.2.1, tz_k V 4 (by decide)]), r, fun z y => ?_, ?_⟩⟩
    · have z : q_X7_isThrough 12 K P = 0 := z
      rw [thr] at z
      have := hl y
      rw [if_pos (by omega)] at z
      exact absurd z (by decide)
    · show _ = if q_X7_isThrough 12 K P = 0 then _ else _
      rw [thr, E_X10_step_60]
      by_cases r3 : rr = 3
      · have := hl r3
        have dl : d = l := by omega
        rw [if_neg (show ¬ (0 = 0 ∧ ¬ rr = 3) from fun z => z.2 r3), if_neg i10, if_pos rfl, if_pos dl, if_neg i10]
        simp only [h.kt, if_true, thE, if_pos dl, Option.bind_some, asI_I, if_neg i10]
      · rw [if_pos (show 0 = 0 ∧ ¬ rr = 3 from ⟨rfl, r3⟩), if_pos rfl, if_pos rfl]
        by_cases dl : d = l
        · simp only [h.kt, if_true, thE, if_pos dl, Option.bind_some, asI_I, if_neg i10]
        · simp only [h.kt, if_true, thE, if_neg dl, Option.bind_some, asI_I]
  | succ nn ih =>
    intro j V D G c K B m d t a r i C wi uw k0 last ha tT hl hn
    have b1 := wi.md
    have b2 := wi.dl
    have b3 := wi.l12
    have b4 := wi.m1
    have e4 : K 0 4 = nI m := wi.m
    have e8 : K 0 8 = nI d := wi.d
    have el : P 0 1 = nI l := wi.l
    obtain ⟨k4, m', tl', t1, t2, t3, t4, t5, t6, _⟩ := r.T k rfl
    have z : tl' = 0 := (nI_eq (by omega) (by omega)).mp (t3.symm.trans (tz_16 V))
    subst z
    rw [wkS_s] at t2
    have mm : m' = m := (nI_eq (by omega) (by omega)).mp (t2.symm.trans e4)
    subst mm
    have rk := r.K k k4
    rw [wkS_s] at rk
    obtain ⟨u1, u2, u3, u4⟩ := rk.un uw
    have u3 : D (17 + 96 * k + 3) = nI d := u3.trans e8
    have u4 : D (17 + 96 * k + 4) = nI l := u4.trans el
    have wy := (rk.wy uw (m' - 1) (by omega) (by show m' - 1 < ix (K 0 4); rw [e4, ix_nI (by omega)]; omega)).1
    have nh : ∀ f, f < 96 → ∀ (z : Int32), z = nI f → M_X10_walkerHas [mR (some 188), mI (nI k), mI z] (rF I D G c, J) = some (some (mI (D (17 + 96 * k + f))), (rF I D G c, J)) := fun f hf z hz => by
      rw [w_walkerHas h _ f hz k4 hf, rF_D]
    have thr := thr_q e8 el b2 b3
    have thE : M_X10_isThrough [mR (some 188), mI (nI k)] (rF I D G c, J) = some (some (mI (if d = l then 1 else 0)), (rF I D G c, J)) := w_isThrough h _ k4 (by rw [rF_D]; exact u3) (by rw [rF_D]; exact u4) (by omega) (by omega)
    have lp : lp_X7_goOn_89 12 P U x2 (nn + 1) j (nI a) K B V = (if (nI a) < 0 then ((nI a), K, B, V) else (if (q_X7_isThrough 12 K P) = 0 then lp_X7_goOn_89 12 P U x2 nn (j + 1) (q_X1_stepFrom U V (nI a) (q_X4_stepAt 12 P (K 0 8))) (gK_X7_takeTrail (uv K 0 8 ((K 0 8) + 1)) B (gV_X1_stepFrom U V (nI a) (q_X4_stepAt 12 P (K 0 8)))) (gB_X7_takeTrail (uv K 0 8 ((K 0 8) + 1)) B (gV_X1_stepFrom U V (nI a) (q_X4_stepAt 12 P (K 0 8)))) (gV_X7_takeTrail (uv K 0 8 ((K 0 8) + 1)) B (gV_X1_stepFrom U V (nI a) (q_X4_stepAt 12 P (K 0 8)))) else ((nI a), K, B, V))) := rfl
    rw [lp, if_neg (nI_pos (show a < 2 ^ 31 by have := ha.1; omega)), thr, if_neg (show ¬ (nn + 1 = 0 ∧ ¬ rr = 3) from fun z => by omega)]
    by_cases dl : d = l
    · rw [if_pos dl, if_neg i10]
      have en := r.B.en a ha.1 (by rw [tz_k V 1 (by decide), ha.2.1]; exact i10)
      refine ⟨D, G, c, t, m', d, m', by omega, i, C, k0, wi, r.ovb (Or.inr rfl), ⟨b4, by omega, t6⟩, ⟨u1, u2⟩, Or.inl ⟨a, rfl, ha, wy.trans last, (show D (701 + 9 * a + 3) = V 4 a by rw [en.2.2.1, tz_k V 4 (by decide)]), r, fun z => ?_, ?_⟩⟩
      · have z : q_X7_isThrough 12 K P = 0 := z
        rw [thr, if_pos dl] at z
        exact absurd z (by decide)
      · show _ = if q_X7_isThrough 12 K P = 0 then _ else _
        rw [thr, E_X10_step_60, if_neg i10, if_pos rfl, if_pos dl, if_neg i10]
        simp only [h.kt, if_true, thE, if_pos dl, Option.bind_some, asI_I, if_neg i10]
    · rw [if_neg dl, if_pos rfl]
      obtain ⟨D1, G1, c1, how, t', K', B', V', s1, s2, s3, ⟨q1, q2, q3⟩, i1, C1, ⟨f5, f6, f7, f8⟩, cs⟩ := r.does i C h I hb hw21 G c (wkS_s _ _ _) wi (by omega) ha last (by omega)
      rw [wkS_ss] at i1 cs
      rw [← q1, ← q2, ← q3]
      generalize q_X1_stepFrom U V (nI a) (q_X4_stepAt 12 P (K 0 8)) = qq at cs ⊢
      have ev : Ev T_X10_step 60 [some (mR (some 188)), some (mI (nI k)), some (mI at1), some (mI 0), some (mI 1)] [] (rF I D G c, J) = Ev T_X10_step 60 [some (mR (some 188)), some (mI (nI k)), some (mI at1), some (mI how), some (mI at1)] [] (rF I D1 G1 c1, J) := by
        rw [E_X10_step_60, if_neg i10, if_pos rfl]
        simp only [h.kt, if_true, thE, if_neg dl, Option.bind_some, asI_I, s1]
      rw [ev]
      have k0' : K' 0 5 = K0 0 5 ∧ K' 0 6 = K0 0 6 ∧ K' 0 7 = K0 0 7 := ⟨f5.trans k0.1, f6.trans k0.2.1, f7.trans k0.2.2⟩
      rcases cs with ⟨h0, a', m2, qa, at', wi', last', r'⟩ | ⟨hh, qh, wi', ⟨m2, m21, m22, m23⟩, r'⟩
      · subst h0
        rw [qa]
        have xe : at1 = if nn = 0 ∧ ¬ rr = 3 then 0 else 1 := by
          rw [hat]
          by_cases r3 : rr = 3
          · rw [if_pos r3, if_neg (fun z => z.2 r3)]
          · have := hn r3
            rw [if_neg r3, if_pos ⟨by omega, r3⟩]
        have g := ih (j + 1) V' D1 G1 c1 K' B' m2 (d + 1) t' a' r' i1 C1 wi' (by rw [f5]; exact uw) k0' last' at' (by omega) (fun z => by have := hl z; omega) (fun z => by have := hn z; omega)
        rw [← xe] at g
        obtain ⟨x1, x2, x3, x4, x5, x6, x7, y1, y2⟩ := g
        exact ⟨x1, x2, x3, x4, x5, x6, x7, by omega, y2⟩
      · have hneg : how < 0 := by rcases hh with z | z <;> rw [z] <;> decide
        have h0 : ¬ how = 0 := by rcases hh with z | z <;> rw [z] <;> decide
        rw [qh, goOn_neg 12 P U x2 nn (j + 1) hneg]
        have rk' := r'.K k k4
        rw [wkS_s] at rk'
        have un' := rk'.un (by show ¬ bz (K' 0 5) = 0; rw [f5]; exact uw)
        refine ⟨D1, G1, c1, t', m', d + 1, m2, by omega, i1, C1, k0', wi', r'.ovb (Or.inl rfl), ⟨m21, m22, m23⟩, ⟨un'.1, un'.2.1⟩, Or.inr ⟨hh, ?_⟩⟩
        rw [E_X10_step_60]
        by_cases y : at1 = 0
        · rw [if_pos y, if_neg h0]
          simp only [h.kt, if_true]
        · rw [if_neg y, if_neg h0, if_neg h0]
          simp only [h.kt, if_true]
end
section
/-! A walker's step: how it ends; the pair. -/
def ovI (I : MI) (r0 r1 r2 r3 : Int32) : MI := up2 (up2 (up2 (up2 (up2 I 188 32 1) 201 0 r0) 201 1 r1) 201 2 r2) 201 3 r3
theorem ovI_o (I : MI) (r0 r1 r2 r3 : Int32) {x : Nat} (h1 : x ≠ 188) (h2 : x ≠ 201) : ovI I r0 r1 r2 r3 x = I x := by
  unfold ovI
  rw [up2_o _ _ _ h2, up2_o _ _ _ h2, up2_o _ _ _ h2, up2_o _ _ _ h2, up2_o _ _ _ h1]
theorem ovI_k (I : MI) (r0 r1 r2 r3 : Int32) {k : Nat} (h : k ≠ 32) : ovI I r0 r1 r2 r3 188 k = I 188 k := by
  unfold ovI
  rw [up2_o _ _ _ (by decide), up2_o _ _ _ (by decide), up2_o _ _ _ (by decide), up2_o _ _ _ (by decide), up2_k _ _ _ h]
theorem ovI_32 (I : MI) (r0 r1 r2 r3 : Int32) : ovI I r0 r1 r2 r3 188 32 = 1 := by
  unfold ovI
  rw [up2_o _ _ _ (by decide), up2_o _ _ _ (by decide), up2_o _ _ _ (by decide), up2_o _ _ _ (by decide), up2_s]
theorem ovI_r (I : MI) (r0 r1 r2 r3 : Int32) : ovI I r0 r1 r2 r3 201 0 = r0 ∧ ovI I r0 r1 r2 r3 201 1 = r1 ∧ ovI I r0 r1 r2 r3 201 2 = r2 ∧ ovI I r0 r1 r2 r3 201 3 = r3 := by
  unfold ovI
  refine ⟨?_, ?_, ?_, up2_s _ _ _ _⟩
  · rw [up2_k _ _ _ (by decide), up2_k _ _ _ (by decide), up2_k _ _ _ (by decide), up2_s]
  · rw [up2_k _ _ _ (by decide), up2_k _ _ _ (by decide), up2_s]
  · rw [up2_k _ _ _ (by decide), up2_s]
theorem w_isOver {J : MJ} (h : RefL J) (I : MI) (D G : RowV) (c : Int32) {k mm : Nat} (k4 : k < 4) (m1 : 1 ≤ mm) (m25 : mm ≤ 25) (d5 : D (17 + 96 * k + 5) = nI mm) {how r0 r1 : Int32} (hr : (how = 0 ∧ ∃ a, a < 128 ∧ D (17 + 96 * k + (18 + 3 * (mm - 1))) = nI a ∧ D (701 + 9 * a + 3) = r0 ∧ r1 = nI a) ∨ (¬ how = 0 ∧ r0 = how ∧ r1 = -1)) {D' G' : RowV} (sw : M_X10_sweeps [mR (some 188)] (rF (ovI I r0 r1 (D (17 + 96 * k + 2)) (D (17 + 96 * k + 1))) (sD D (17 + 96 * k + 0) 0) G c, J) = some (none, (rF (ovI I r0 r1 (D (17 + 96 * k + 2)) (D (17 + 96 * k + 1))) D' G' c, J))) : M_X10_isOver [mR (some 188), mI (nI k), mI how] (rF I D G c, J) = some (some (mI (if how = 0 then 1 else how)), (rF (ovI I r0 r1 (D (17 + 96 * k + 2)) (D (17 + 96 * k + 1))) D' G' c, J)) := by
  have nh : ∀ f, f < 96 → ∀ (z : Int32) (X : MI), z = nI f → M_X10_walkerHas [mR (some 188), mI (nI k), mI z] (X, J) = some (some (mI (X 194 (17 + 96 * k + f))), (X, J)) := fun f hf z X hz => w_walkerHas h X f hz k4 hf
  have wz : ∀ X : MI, wZ (X, J) 10 188 32 1 = some (up2 X 188 32 1, J) := fun X => wZ_ok 32 1 h.k (Or.inr rfl)
  have r32 : ∀ (I : MI) (D G : RowV) (c v : Int32), up2 (rF I D G c) 188 32 v = rF (up2 I 188 32 v) D G c := fun I D G c v => rF_so I D G c v (by decide) (by decide) (by decide)
  have s01 : ∀ (I : MI) (D G : RowV) (c v : Int32) (j : Nat), up2 (rF I D G c) 201 j v = rF (up2 I 201 j v) D G c := fun I D G c v j => rF_so I D G c v (by decide) (by decide) (by omega)
  have st0 : ∀ (X : MI) (v : Int32), st (X, J) 11 201 0 v = some (up2 X 201 0 v, J) := fun X v => st_ok 0 v h.s33 (by decide)
  have st1 : ∀ (X : MI) (v : Int32), st (X, J) 11 201 1 v = some (up2 X 201 1 v, J) := fun X v => st_ok 1 v h.s33 (by decide)
  have st2 : ∀ (X : MI) (v : Int32), st (X, J) 11 201 2 v = some (up2 X 201 2 v, J) := fun X v => st_ok 2 v h.s33 (by decide)
  have st3 : ∀ (X : MI) (v : Int32), st (X, J) 11 201 3 v = some (up2 X 201 3 v, J) := fun X v => st_ok 3 v h.s33 (by decide)
  have f33 : ∀ X : MI, fR (X, J) 10 188 33 = some (some 201) := fun X => by rw [fR_ok 33 h.k, h.r33]
  have e0 : rF (up2 (up2 (up2 (up2 (up2 I 188 32 1) 201 0 r0) 201 1 r1) 201 2 (D (17 + 96 * k + 2))) 201 3 (D (17 + 96 * k + 1))) (sD D (17 + 96 * k + 0) 0) G c = rF (ovI I r0 r1 (D (17 + 96 * k + 2)) (D (17 + 96 * k + 1))) (sD D (17 + 96 * k + 0) 0) G c := rfl
  rw [E_X10_isOver]
  rcases hr with ⟨h0, a, a1, a2, a3, a4⟩ | ⟨h0, a1, a2⟩
  · subst h0 a4
    simp only [h.kt, if_true, nh 5 (by decide) 5 _ rfl, nh (18 + 3 * (mm - 1)) (by omega) _ _ (m1_18 m1), Option.bind_some, asI_I, rF_D, d5, a2, wz, r32, f33, w_its h _ 3 (show (3 : Int32) = nI 3 from rfl) a1 (by decide), a3, st0, st1, st2, st3, s01, nh 2 (by decide) 2 _ rfl, nh 1 (by decide) 1 _ rfl, h.f18, w_walkerAt _ k 0 (show (0 : Int32) = nI 0 from rfl), h.stD _ _ (show nI (17 + 96 * k + 0) = nI (17 + 96 * k + 0) from rfl) (show 17 + 96 * k + 0 < 1853 by omega), rF_sD, e0, sw, asV_n]
  · subst a1 a2
    simp only [h.kt, if_true, nh 5 (by decide) 5 _ rfl, nh (18 + 3 * (mm - 1)) (by omega) _ _ (m1_18 m1), Option.bind_some, asI_I, rF_D, d5, wz, r32, f33, if_neg h0, st0, st1, st2, st3, s01, nh 2 (by decide) 2 _ rfl, nh 1 (by decide) 1 _ rfl, h.f18, w_walkerAt _ k 0 (show (0 : Int32) = nI 0 from rfl), h.stD _ _ (show nI (17 + 96 * k + 0) = nI (17 + 96 * k + 0) from rfl) (show 17 + 96 * k + 0 < 1853 by omega), rF_sD, e0, sw, asV_n]
/-- what a step does ahead of going on: the same road on both sides -/
theorem step_core {I : MI} {J1 : MJ} {T nn vol t k : Nat} {U : NodV} {V : MemV} {H : OneV} {W : WkV} (rl : RefL J1) (i : Inv U V H W nn vol t (T + 10001) (fun _ => 0)) (tT : t ≤ T) (C : CntI V) (r : Rel none U V H W (I 194) nn) (k4 : k < 4) {K : OneV} {P : RouV} {B : TriV} (wk : W k = (K, P, B)) (uw : ¬ bz (K 0 5) = 0) : ∃ l rr K0, rr ≤ 3 ∧ K0 0 5 = K 0 5 ∧ ∀ (I1 Z : MI), M_X10_isWalker [mR (some 188), mI (nI k)] (I1, J1) = some (some (mI 1), (I1, J1)) → M_X10_keeps [mR (some 188)] (I1, J1) = some (none, (Z, J1)) → Z 188 20 = -1 → Z 188 21 = -1 → Z 194 = I 194 → Gon U H W nn vol (T + 10001) k P l rr K0 Z J1 (o_X7_goOn 12 K P B U V) (T + 10001) (M_X10_step [mR (some 188), mI (nI k)] (I1, J1)) := by
  obtain ⟨m, d, l, rr, r3, wi⟩ := i.W k k4 (by rw [wk]; exact uw)
  rw [wk] at wi
  obtain ⟨r2, r22, r23⟩ := r.R2 k k4 (by rw [wk]; exact uw) (fun z => by cases z)
  rw [wk] at r23
  have rr2 : rr = r2 := (nI_eq (by omega) (by omega)).mp (wi.r.symm.trans r23)
  subst rr2
  have b1 := wi.md
  have b2 := wi.dl
  have b3 := wi.l12
  have b4 := wi.m1
  have e4 : K 0 4 = nI m := wi.m
  have e7 : K 0 7 = nI rr := wi.r
  have el : P 0 1 = nI l := wi.l
  have w1 : ∀ (x : OneV × RouV × TriV) j, j ≠ k → wkS W k x j = W j := fun x j q => wkS_n W x q
  have lt3 : ∀ q, q ≤ 2 → nI q < (3 : Int32) := fun q hq => nI_lt (b := 3) (by omega) (by decide)
  have pre : ∀ (I1 Z : MI), M_X10_isWalker [mR (some 188), mI (nI k)] (I1, J1) = some (some (mI 1), (I1, J1)) → M_X10_keeps [mR (some 188)] (I1, J1) = some (none, (Z, J1)) → Z 194 = I 194 → M_X10_isWayOther [mR (some 188), mI (nI k)] (Z, J1) = some (some (mI (q_X7_isChanged K B V)), (Z, J1)) := fun I1 Z _ _ zD => by
    have := w_wayOther r rl Z (Z 195) (Z 188 22) k4 wk uw wi
    rw [← zD, rF_id] at this
    exact this
  by_cases ch : q_X7_isChanged K B V = 0
  · have al := chg_no i.Z.T30 wi ch
    obtain ⟨a, a1, a2⟩ := al (m - 1) (by omega)
    have lw := last_q7 (B := B) e4 b4 (by omega)
    have nr3 : ¬ rr = 3 := by omega
    by_cases hv : bz (K 0 6) = 0 ∧ ¬ q_X7_lacksNext 12 K P B V = 0
    · -- it turns heavy
      obtain ⟨i2, wi2, kv⟩ := i.heavy (W' := wkS W k (uv K 0 6 1, P, B)) k4 wk wi hv.1 uw al (w1 _) (wkS_s _ _ _)
      have r4 := r.heavy k4 wk e4 (by omega) uw (w1 _) (wkS_s W k (uv K 0 6 1, P, B)) kv
      have kj : ∀ j, j ≠ 6 → uv K 0 6 1 0 j = K 0 j := fun j q => uv_n _ _ _ _ _ _ (fun w => q w.2)
      have oo : o_X7_goOn 12 K P B U V = lp_X7_goOn_89 12 P U 1 (ix 1) 0 (nI a) (uv K 0 6 1) B (gV_X7_holdAll (uv K 0 6 1) B V) := by
        unfold o_X7_goOn
        rw [if_pos ch, if_pos hv.1, if_neg hv.2, if_pos (by rw [e7]; exact lt3 rr r22), last_q7 (B := B) ((kj 4 (by decide)).trans e4) b4 (by omega), a1]
      refine ⟨l, rr, uv K 0 6 1, by omega, kj 5 (by decide), fun I1 Z g1 g2 z20 z21 zD => ?_⟩
      have g := step_loop (W0 := W) rl Z z20 z21 (P := P) (x2 := 1) (at1 := 0) (by rw [if_neg nr3]) (K0 := uv K 0 6 1) 1 0 _ _ (Z 195) (Z 188 22) _ _ m d t a r4 i2 (C.fr (kv 1 (by decide)) (kv 9 (by decide))) wi2 (by rw [kj 5 (by decide)]; exact uw) ⟨rfl, rfl, rfl⟩ a1 ⟨a2.1, by rw [kv 1 (by decide)]; exact a2.2.1, by rw [kv 4 (by decide)]; exact a2.2.2⟩ (by omega) (fun z => absurd z nr3) (fun _ => Nat.le_refl _)
      have tu := r.turns rl Z (Z 195) (Z 188 22) k4 wk uw wi a1 a2
      rw [if_pos hv] at tu
      have id : rF Z (I 194) (Z 195) (Z 188 22) = Z := by rw [← zD]; exact rF_id _
      rw [id] at tu
      rw [oo]
      have ev : M_X10_step [mR (some 188), mI (nI k)] (I1, J1) = Ev T_X10_step 60 [some (mR (some 188)), some (mI (nI k)), some (mI 0), some (mI 0), some (mI 1)] [] (rF Z (sD (I 194) (17 + 96 * k + 1) 1) (Z 195) (Z 188 22), J1) := by
        have rk := r.K k k4
        rw [wk] at rk
        have h2 : sD (I 194) (17 + 96 * k + 1) 1 (17 + 96 * k + 2) = nI rr := by rw [sD_n _ _ (by omega), (rk.un uw).2.1]; exact e7
        have n3 : ¬ nI rr = 3 := fun z => nr3 ((nI_eq (b := 3) (by omega) (by decide)).mp z)
        rw [E_X10_step]
        simp only [rl.kt, if_true, g1, Option.bind_some, asI_I, if_neg i10, g2, asV_n, pre I1 Z g1 g2 zD, ch, tu, w_walkerHas rl _ 2 (show (2 : Int32) = nI 2 from rfl) k4 (by decide), rF_D, h2, if_neg n3]
      rw [ev]
      obtain ⟨x1, x2, x3, x4, x5, x6, x7, y1, y2⟩ := g
      exact ⟨x1, x2, x3, x4, x5, x6, x7, by omega, y2⟩
    · -- it stays as it is
      have oo : o_X7_goOn 12 K P B U V = lp_X7_goOn_89 12 P U 1 (ix 1) 0 (nI a) K B V := by
        unfold o_X7_goOn
        rw [if_pos ch, lw, a1]
        by_cases hv0 : bz (K 0 6) = 0
        · have ln : q_X7_lacksNext 12 K P B V = 0 := by
            by_cases z : q_X7_lacksNext 12 K P B V = 0
            · exact z
            · exact absurd ⟨hv0, z⟩ hv
          rw [if_pos hv0, if_pos ln, if_pos (by rw [e7]; exact lt3 rr r22)]
        · rw [if_neg hv0, if_pos (by rw [e7]; exact lt3 rr r22)]
      have ws : wkS W k (K, P, B) = W := wkS_id W k wk
      have r4 := r.mid k4 (by rw [wk]; exact uw) (by rw [wk]; exact e4) (by omega : m ≤ 25)
      refine ⟨l, rr, K, by omega, rfl, fun I1 Z g1 g2 z20 z21 zD => ?_⟩
      have g := step_loop (W0 := W) rl Z z20 z21 (P := P) (x2 := 1) (at1 := 0) (by rw [if_neg nr3]) (K0 := K) 1 0 V (I 194) (Z 195) (Z 188 22) K B m d t a (by rw [ws]; exact r4) (by rw [ws]; exact i) C wi uw ⟨rfl, rfl, rfl⟩ a1 a2 (by omega) (fun z => absurd z nr3) (fun _ => Nat.le_refl _)
      have tu := r.turns rl Z (Z 195) (Z 188 22) k4 wk uw wi a1 a2
      rw [if_neg hv] at tu
      have id : rF Z (I 194) (Z 195) (Z 188 22) = Z := by rw [← zD]; exact rF_id _
      rw [id] at tu g
      rw [oo]
      have ev : M_X10_step [mR (some 188), mI (nI k)] (I1, J1) = Ev T_X10_step 60 [some (mR (some 188)), some (mI (nI k)), some (mI 0), some (mI 0), some (mI 1)] [] (Z, J1) := by
        have rk := r.K k k4
        rw [wk] at rk
        have h2 : Z 194 (17 + 96 * k + 2) = nI rr := by rw [zD, (rk.un uw).2.1]; exact e7
        have n3 : ¬ nI rr = 3 := fun z => nr3 ((nI_eq (b := 3) (by omega) (by decide)).mp z)
        rw [E_X10_step]
        simp only [rl.kt, if_true, g1, Option.bind_some, asI_I, if_neg i10, g2, asV_n, pre I1 Z g1 g2 zD, ch, tu, w_walkerHas rl _ 2 (show (2 : Int32) = nI 2 from rfl) k4 (by decide), h2, if_neg n3]
      rw [ev]
      obtain ⟨x1, x2, x3, x4, x5, x6, x7, y1, y2⟩ := g
      exact ⟨x1, x2, x3, x4, x5, x6, x7, by omega, y2⟩
  · -- it begins anew
    have rs := fun (Z : MI) (z20 : Z 188 20 = -1) (z21 : Z 188 21 = -1) => r.restart i C rl Z z20 z21 (Z 195) (Z 188 22) k4 wk uw wi r22 (by omega)
    unfold o_X7_goOn
    rw [if_neg ch]
    generalize gK_X7_goToRoot (uv (uv K 0 7 ((K 0 7) + 1)) 0 6 1) B (gV_X7_letGo K B V) = K1 at rs ⊢
    generalize gB_X7_goToRoot (uv (uv K 0 7 ((K 0 7) + 1)) 0 6 1) B (gV_X7_letGo K B V) = B1 at rs ⊢
    generalize gV_X7_goToRoot (uv (uv K 0 7 ((K 0 7) + 1)) 0 6 1) B (gV_X7_letGo K B V) = V1 at rs ⊢
    obtain ⟨D0, G0, c0, ro, _, _, i2, C2, wi2, last, ra, k5⟩ := rs (fun a j => if a = 188 then -1 else 0) rfl rfl
    refine ⟨l, rr + 1, K1, by omega, k5, fun I1 Z g1 g2 z20 z21 zD => ?_⟩
    obtain ⟨D1, G1, c1, ro1, s1, r4, _, _, _, last1, _, _⟩ := rs Z z20 z21
    have id : rF Z (I 194) (Z 195) (Z 188 22) = Z := by rw [← zD]; exact rF_id _
    rw [id] at s1
    have e71 : K1 0 7 = nI (rr + 1) := wi2.r
    have e41 : K1 0 4 = nI 1 := wi2.m
    rw [last_q7 (B := B1) e41 (by omega) (by omega), show (1 : Nat) - 1 = 0 from rfl, last]
    have rk := r4.K k k4
    rw [wkS_s] at rk
    have u5 : ¬ bz (K1 0 5) = 0 := by rw [k5]; exact uw
    have h2 : D1 (17 + 96 * k + 2) = nI (rr + 1) := (rk.un u5).2.1.trans e71
    have evp : ∀ y : Int32, (y = if rr + 1 = 3 then 1 else 0) → M_X10_step [mR (some 188), mI (nI k)] (I1, J1) = Ev T_X10_step 60 [some (mR (some 188)), some (mI (nI k)), some (mI y), some (mI 0), some (mI 1)] [] (rF Z D1 G1 c1, J1) := fun y hy => by
      rw [E_X10_step]
      simp only [rl.kt, if_true, g1, Option.bind_some, asI_I, if_neg i10, g2, asV_n, pre I1 Z g1 g2 zD, if_neg ch, s1, w_walkerHas rl _ 2 (show (2 : Int32) = nI 2 from rfl) k4 (by decide), rF_D, h2]
      by_cases z : rr + 1 = 3
      · rw [if_pos z] at hy
        rw [z, if_pos (show nI 3 = 3 from rfl), hy]
      · rw [if_neg z] at hy
        rw [if_neg (show ¬ nI (rr + 1) = (3 : Int32) from fun w => z ((nI_eq (b := 3) (by omega) (by decide)).mp w)), hy]
    by_cases z : rr + 1 = 3
    · rw [if_neg (show ¬ K1 0 7 < 3 by rw [e71, z]; decide), el, ix_nI (by omega)]
      have g := step_loop (W0 := W) rl Z z20 z21 (P := P) (x2 := nI l) (at1 := 1) (by rw [if_pos z]) (K0 := K1) l 0 V1 D1 G1 c1 K1 B1 1 0 (t + 1) ro r4 i2 C2 wi2 u5 ⟨rfl, rfl, rfl⟩ last ra (by omega) (fun _ => by omega) (fun w => absurd z w)
      rw [if_neg (fun w => w.2 z)] at g
      rw [evp 1 (by rw [if_pos z])]
      obtain ⟨x1, x2, x3, x4, x5, x6, x7, y1, y2⟩ := g
      exact ⟨x1, x2, x3, x4, x5, x6, x7, by omega, y2⟩
    · rw [if_pos (show K1 0 7 < 3 by rw [e71]; exact lt3 _ (by omega))]
      have g := step_loop (W0 := W) rl Z z20 z21 (P := P) (x2 := 1) (at1 := 0) (by rw [if_neg z]) (K0 := K1) 1 0 V1 D1 G1 c1 K1 B1 1 0 (t + 1) ro r4 i2 C2 wi2 u5 ⟨rfl, rfl, rfl⟩ last ra (by omega) (fun w => absurd w z) (fun _ => Nat.le_refl _)
      rw [if_neg (fun w => by omega)] at g
      rw [evp 0 (by rw [if_neg z])]
      obtain ⟨x1, x2, x3, x4, x5, x6, x7, y1, y2⟩ := g
      exact ⟨x1, x2, x3, x4, x5, x6, x7, by omega, y2⟩
end
section
/-! A walker's step: the pair. -/
theorem P_step {I : MI} {J : MJ} {T B0 : Nat} (h : St I J T B0) (h30 : T + 10001 ≤ 1000000000) (x : Int32) : Pair I J T B0 (M_X9_step [mR (some 0), mI x]) (M_X10_step [mR (some 188), mI x]) := by
  have refs : ∀ Y : MI, M_X10_isWalker [mR (some 188), mI x] (Y, J) = some (some (mI 0), (Y, J)) → M_X10_step [mR (some 188), mI x] (Y, J) = some (some (mI (-1)), (rfR Y 5, J)) := fun Y hc => by
    rw [E_X10_step]
    simp only [h.1.2.kt, if_true, hc, Option.bind_some, asI_I, w_refuses h.1.2 Y (show (5 : Int32) = nI 5 from rfl) (by decide)]
  rcases h.2.2.2.2.2.2.2.2.2 with td | u
  · have td' := td
    obtain ⟨vol0, ad, p, q, _, td13, ⟨nn0, tt0, _, _, r0⟩, _⟩ := td'
    rcases w_isWalker h.1.2 td13 r0 (rfz I 5) (by rw [rfz_o _ _ (by decide)]) (by rw [rfz_o _ _ (by decide)]) x with ⟨a1, a2⟩ | ⟨k, k4, xk, a1, a3, _⟩
    · exact Pair.no h h30 (k := 5) (by decide) (u_step_no h.1.1 I x a1) (refs _ a2)
    · obtain ⟨vol, nn, t, X, J1, hv, i, c, r, k1, kl, rl, ⟨e1, e2, e3, e4, _⟩, xo, j6, _, rest⟩ := act_pre0 h h30 td
      have uE := u_step h.1.1 I x a1 k4 k1 kl
      have isw : ∀ Y : MI, (∀ y, 188 ≤ y → y < 208 → Y y = I y) → M_X10_isWalker [mR (some 188), mI (nI k)] (Y, J1) = some (some (mI 1), (Y, J1)) := fun Y lo => by
        rcases w_isWalker rl td13 r0 Y (by rw [lo 188 (by decide) (by decide)]) (lo 194 (by decide) (by decide)) x with ⟨b1, _⟩ | ⟨_, _, _, _, _, b2⟩
        · rw [a1] at b1; cases b1
        · rw [xk] at b2; exact b2
      subst xk
      rcases hwk : wks I 31 k with ⟨K, P, B⟩
      have vK : vw 1 X (31 + 6 * k) = K := by
        have : vw 1 X (31 + 6 * k) = (wks I 31 k).1 := vw_fr (fun y p q => e4 y (by omega) (by omega))
        rw [this, hwk]
      have vP : vw 2 X (31 + 6 * k + 1) = P := by
        have : vw 2 X (31 + 6 * k + 1) = (wks I 31 k).2.1 := vw_fr (fun y p q => e4 y (by omega) (by omega))
        rw [this, hwk]
      have vB : vw 3 X (31 + 6 * k + 3) = B := by
        have : vw 3 X (31 + 6 * k + 3) = (wks I 31 k).2.2 := vw_fr (fun y p q => e4 y (by omega) (by omega))
        rw [this, hwk]
      rw [hwk] at a3
      have uw : ¬ bz (K 0 5) = 0 := a3
      have ip := i.T (show T ≤ T + 10001 by omega) h30
      obtain ⟨l, rr, K0, r3, k05, core⟩ := step_core rl ip i.Z.tT c r k4 hwk uw
      unfold goQ goI q_X7_goOn gK_X7_goOn gB_X7_goOn gV_X7_goOn at uE
      rw [vK, vP, vB, e1, e2] at uE
      generalize o_X7_goOn 12 K P B (vw 6 I 1) (vw 12 I 17) = oo at uE core
      obtain ⟨q, K', B', V'⟩ := oo
      have uE : M_X9_step [mR (some 0), mI (nI k)] (I, J) = if q < 0 then some (some (mI q), (stpI (tlo (pt (pt (pt X (31 + 6 * k) K') (31 + 6 * k + 3) B') 17 V') (31 + 6 * k) q) (31 + 6 * k), J1)) else if q_X7_isThrough 12 (vw 1 (pt (pt (pt X (31 + 6 * k) K') (31 + 6 * k + 3) B') 17 V') (31 + 6 * k)) (vw 2 (pt (pt (pt X (31 + 6 * k) K') (31 + 6 * k + 3) B') 17 V') (31 + 6 * k + 1)) = 0 then some (some (mI 0), (pt (pt (pt X (31 + 6 * k) K') (31 + 6 * k + 3) B') 17 V', J1)) else some (some (mI 1), (stpI (tlo (pt (pt (pt X (31 + 6 * k) K') (31 + 6 * k + 3) B') 17 V') (31 + 6 * k) q) (31 + 6 * k), J1)) := uE
      have gK : vw 1 (pt (pt (pt X (31 + 6 * k) K') (31 + 6 * k + 3) B') 17 V') (31 + 6 * k) = K' := by rw [vw_out _ _ (by omega), vw_out _ _ (by omega), vw_pt]
      have gP : vw 2 (pt (pt (pt X (31 + 6 * k) K') (31 + 6 * k + 3) B') 17 V') (31 + 6 * k + 1) = P := by rw [vw_out _ _ (by omega), vw_out _ _ (by omega), vw_out _ _ (by omega), vP]
      have gB : vw 3 (pt (pt (pt X (31 + 6 * k) K') (31 + 6 * k + 3) B') 17 V') (31 + 6 * k + 3) = B' := by rw [vw_out _ _ (by omega), vw_pt]
      have gV : vw 12 (pt (pt (pt X (31 + 6 * k) K') (31 + 6 * k + 3) B') 17 V') 17 = V' := vw_pt _ _ _
      have gO : ∀ y, y < 17 ∨ (29 ≤ y ∧ y < 31 + 6 * k) ∨ (31 + 6 * k + 1 ≤ y ∧ y < 31 + 6 * k + 3) ∨ 31 + 6 * k + 6 ≤ y → pt (pt (pt X (31 + 6 * k) K') (31 + 6 * k + 3) B') 17 V' y = X y := fun y w => by rw [pt_out (by omega), pt_out (by omega), pt_out (by omega)]
      rw [gK, gP] at uE
      have w1 : ∀ (x : OneV × RouV × TriV) j, j ≠ k → wkS (wks I 31) k x j = wks I 31 j := fun x j q => wkS_n _ x q
      -- the windows of a heap that agrees with it
      have wkj : ∀ (Y : MI) (w : OneV × RouV × TriV), vw 1 Y (31 + 6 * k) = w.1 → vw 2 Y (31 + 6 * k + 1) = w.2.1 → vw 3 Y (31 + 6 * k + 3) = w.2.2 → (∀ y, 31 ≤ y → y < 55 → (y < 31 + 6 * k ∨ 31 + 6 * k + 6 ≤ y) → Y y = I y) → ∀ j, j < 4 → WkEq (wks Y 31 j) (wkS (wks I 31) k w j) := fun Y w q1 q2 q3 q4 j hj => by
        by_cases z : j = k
        · subst z
          rw [wkS_s]
          have : wks Y 31 j = w := by
            unfold wks
            rw [q1, q2, q3]
          rw [this]
          exact WkEq.refl _
        · rw [w1 _ j z]
          have : wks Y 31 j = wks I 31 j := by
            unfold wks
            rw [vw_fr (N := 1) (I := I) (fun y p q => q4 y (by omega) (by omega) (by omega)), vw_fr (N := 2) (I := I) (fun y p q => q4 y (by omega) (by omega) (by omega)), vw_fr (N := 3) (I := I) (fun y p q => q4 y (by omega) (by omega) (by omega))]
          rw [this]
          exact WkEq.refl _
      by_cases go : 0 ≤ q ∧ q_X7_isThrough 12 K' P = 0
      · -- it goes on
        have q0 : ¬ q < 0 := Int32.not_lt.mpr go.1
        rw [if_neg q0, if_pos go.2] at uE
        have oX := gO
        generalize hI1 : pt (pt (pt X (31 + 6 * k) K') (31 + 6 * k + 3) B') 17 V' = I1 at uE gK gP gB gV oX
        obtain ⟨Z, z1, zf, zo, zk, fin⟩ := rest I1 (fun y q _ _ => oX y (by omega)) (by rw [oX 0 (by omega), xo 0 (by decide) (by decide)])
        have lo : ∀ y, 188 ≤ y → y < 208 → I1 y = I y := fun y p q => by rw [oX y (by omega), xo y (by omega) (by omega)]
        obtain ⟨D', G', c', t', m', d', mm, _, i2, C2, k56, wi2, ov, _, _, alt⟩ := core I1 Z (isw I1 lo) z1 zf.2.1 zf.2.2.1 zf.1
        rcases alt with ⟨a', qa, _, _, _, r2, n3, ev⟩ | ⟨hh, _⟩
        · have ev : M_X10_step [mR (some 188), mI (nI k)] (I1, J1) = if q_X7_isThrough 12 K' P = 0 then some (some (mI 0), (rF Z D' G' c', J1)) else (M_X10_isOver [mR (some 188), mI (nI k), mI 0] (rF Z D' G' c', J1)).bind fun u3 => (asI u3.1).bind fun y4 => some (some (mI y4), u3.2) := ev
          rw [if_pos go.2] at ev
          have nr := n3 go.2
          have r4 := r2.rest ⟨rr, by omega, by rw [wkS_s]; exact wi2.r⟩
          refine ⟨0, _, rF Z D' G' c', J1, uE, ev, fin0 fin zf zk (by rw [zo 201 (by decide) (by decide), lo 201 (by decide) (by decide)]) h.2.2.2.1 h.2.2.2.2.2.1 j6 (by rw [oX 186 (by omega), xo 186 (by decide) (by decide)]) (by rw [oX 0 (by omega), xo 0 (by decide) (by decide)]) (by rw [oX 187 (by omega), xo 187 (by decide) (by decide)]) ⟨?_, gV, ?_, wkj I1 (K', P, B') gK gP gB (fun y p q s => by rw [oX y (by omega), e4 y p q])⟩ i2 C2 r4⟩
          · rw [← e1]; exact vw_fr (fun y _ _ => oX y (by omega))
          · rw [← e3]; exact vw_fr (fun y _ _ => oX y (by omega))
        · exact absurd go.1 (by
            have hh : q = -2 ∨ q = -3 := hh
            rcases hh with z | z <;> rw [z] <;> decide)
      · -- it is over
        have uE2 : M_X9_step [mR (some 0), mI (nI k)] (I, J) = some (some (mI (if q < 0 then q else 1)), (stpI (tlo (pt (pt (pt X (31 + 6 * k) K') (31 + 6 * k + 3) B') 17 V') (31 + 6 * k) q) (31 + 6 * k), J1)) := by
          rw [uE]
          by_cases z : q < 0
          · rw [if_pos z, if_pos z]
          · rw [if_neg z, if_neg z, if_neg (fun w => go ⟨Int32.not_lt.mp z, w⟩)]
        clear uE
        generalize hI0 : pt (pt (pt X (31 + 6 * k) K') (31 + 6 * k + 3) B') 17 V' = I0 at uE2 gK gP gB gV gO
        have tO : ∀ y, y ≠ 0 → y ≠ 187 → tlo I0 (31 + 6 * k) q y = I0 y := fun y p s => by
          unfold tlo
          rw [up2_o _ _ _ s, up2_o _ _ _ s, up2_o _ _ _ s, up2_o _ _ _ s, up2_o _ _ _ p]
        have t0 : tlo I0 (31 + 6 * k) q 0 14 = 1 ∧ ∀ j, j ≠ 14 → tlo I0 (31 + 6 * k) q 0 j = I0 0 j := by
          unfold tlo
          refine ⟨?_, fun j hj => ?_⟩
          · rw [up2_o _ _ _ (by decide), up2_o _ _ _ (by decide), up2_o _ _ _ (by decide), up2_o _ _ _ (by decide), up2_s]
          · rw [up2_o _ _ _ (by decide), up2_o _ _ _ (by decide), up2_o _ _ _ (by decide), up2_o _ _ _ (by decide), up2_k _ _ _ hj]
        have iK : I0 (31 + 6 * k) = K' 0 := by rw [← gK]; rfl
        have t187 : tlo I0 (31 + 6 * k) q 187 0 = (if 0 ≤ q then q_X1_nodeOf V' q else q) ∧ tlo I0 (31 + 6 * k) q 187 1 = (if 0 ≤ q then q else -1) ∧ tlo I0 (31 + 6 * k) q 187 2 = K' 0 7 ∧ tlo I0 (31 + 6 * k) q 187 3 = bz (K' 0 6) := by
          unfold tlo
          rw [gV, iK]
          refine ⟨?_, ?_, ?_, up2_s _ _ _ _⟩
          · rw [up2_k _ _ _ (by decide), up2_k _ _ _ (by decide), up2_k _ _ _ (by decide), up2_s]
          · rw [up2_k _ _ _ (by decide), up2_k _ _ _ (by decide), up2_s]
          · rw [up2_k _ _ _ (by decide), up2_s]
        generalize tlo I0 (31 + 6 * k) q = I2 at uE2 tO t0 t187
        have hK : vw 1 I2 (31 + 6 * k) = K' := by rw [← gK]; exact vw_fr (fun y _ _ => tO y (by omega) (by omega))
        have hP : vw 2 I2 (31 + 6 * k + 1) = P := by rw [← gP]; exact vw_fr (fun y _ _ => tO y (by omega) (by omega))
        have hB : vw 3 I2 (31 + 6 * k + 3) = B' := by rw [← gB]; exact vw_fr (fun y _ _ => tO y (by omega) (by omega))
        have hV : vw 12 I2 17 = V' := by rw [← gV]; exact vw_fr (fun y _ _ => tO y (by omega) (by omega))
        have sE : stpI I2 (31 + 6 * k) = pt (pt I2 (31 + 6 * k) (uv (uv K' 0 5 0) 0 4 0)) 17 (gV_X7_letGo K' B' V') := by
          unfold stpI gK_X7_stop gV_X7_stop
          rw [hK, hB, hV]
        rw [sE] at uE2
        generalize hV2 : gV_X7_letGo K' B' V' = V2 at uE2
        generalize hK2 : uv (uv K' 0 5 0) 0 4 0 = K2 at uE2
        have w0 : bz ((wkS (wks I 31) k (K2, P, B') k).1 0 5) = 0 := by
          rw [wkS_s, ← hK2]
          show bz (uv (uv K' 0 5 0) 0 4 0 0 5) = 0
          rw [uv_n _ _ _ _ _ _ (by decide), uv_s]
          rfl
        have jO : ∀ y, y < 17 ∨ (29 ≤ y ∧ y < 31 + 6 * k) ∨ 31 + 6 * k + 1 ≤ y → pt (pt I2 (31 + 6 * k) K2) 17 V2 y = I2 y := fun y w => by rw [pt_out (by omega), pt_out (by omega)]
        have jK : vw 1 (pt (pt I2 (31 + 6 * k) K2) 17 V2) (31 + 6 * k) = K2 := by rw [vw_out _ _ (by omega), vw_pt]
        have jV : vw 12 (pt (pt I2 (31 + 6 * k) K2) 17 V2) 17 = V2 := vw_pt _ _ _
        generalize pt (pt I2 (31 + 6 * k) K2) 17 V2 = I1 at uE2 jO jK jV
        have aX : ∀ y, y ≠ 0 → y ≠ 187 → (y < 17 ∨ (29 ≤ y ∧ y < 31 + 6 * k) ∨ 31 + 6 * k + 6 ≤ y) → I1 y = X y := fun y p s w => by rw [jO y (by omega), tO y p s, gO y (by omega)]
        obtain ⟨Z, z1, zf, zo, zk, fin⟩ := rest I1 (fun y w p s => aX y (by omega) s (by omega)) (by rw [jO 0 (by omega), t0.2 11 (by decide), gO 0 (by omega), xo 0 (by decide) (by decide)])
        have lo : ∀ y, 188 ≤ y → y < 208 → I1 y = I y := fun y p q => by rw [aX y (by omega) (by omega) (by omega), xo y (by omega) (by omega)]
        obtain ⟨D', G', c', t', m', d', mm, _, i2, C2, k56, wi2, ov, ⟨mm1, mm2, mm3⟩, ⟨dh, dr⟩, alt⟩ := core I1 Z (isw I1 lo) z1 zf.2.1 zf.2.2.1 zf.1
        have i2 : Inv (vw 6 I 1) V' (vw 1 I 29) (wkS (wks I 31) k (K', P, B')) nn vol t' (T + 10001) (fun _ => 0) := i2
        have C2 : CntI V' := C2
        have dh : D' (17 + 96 * k + 1) = bz (K' 0 6) := dh
        have dr : D' (17 + 96 * k + 2) = K' 0 7 := dr
        have ov : Ovb (vw 6 I 1) V' (vw 1 I 29) (wkS (wks I 31) k (K', P, B')) D' nn k := ov
        have wj : ∀ j, j ≠ k → wkS (wks I 31) k (K2, P, B') j = wkS (wks I 31) k (K', P, B') j := fun j z => by rw [w1 _ j z, w1 _ j z]
        have uw2 : ¬ bz ((wkS (wks I 31) k (K', P, B') k).1 0 5) = 0 := by
          rw [wkS_s]
          have : K' 0 5 = K0 0 5 := k56.1
          show ¬ bz (K' 0 5) = 0
          rw [this, k05]
          exact uw
        obtain ⟨i3, v1, kV⟩ := i2.stop k4 uw2 wj w0
        have i1 := i2.wsub k4 wj w0
        rw [wkS_s] at i3 v1 kV
        have i3 : Inv (vw 6 I 1) (gV_X7_letGo K' B' V') (vw 1 I 29) (wkS (wks I 31) k (K2, P, B')) nn vol t' (T + 10001) (fun _ => 0) := i3
        have v1 : ∀ f, f < 64 → gV_X7_letGo K' B' V' 1 f = if V' 1 f = 2 ∧ hc V' (vw 1 I 29) (wkS (wks I 31) k (K2, P, B')) f = 0 then 0 else V' 1 f := v1
        have kV : ∀ q : Fin 12, q ≠ 1 → q ≠ 5 → gV_X7_letGo K' B' V' q = V' q := kV
        rw [hV2] at i3 v1 kV
        have r1 := ov (wkS (wks I 31) k (K2, P, B')) (sD D' (17 + 96 * k + 0) 0) (fun j w => sD_n _ _ (by omega)) (sD_s _ _ _) wj w0
        have alt2 : ∃ how r0 r1 : Int32, ((how = 0 ∧ ∃ a, a < 128 ∧ D' (17 + 96 * k + (18 + 3 * (mm - 1))) = nI a ∧ D' (701 + 9 * a + 3) = r0 ∧ r1 = nI a) ∨ (¬ how = 0 ∧ r0 = how ∧ r1 = -1)) ∧ M_X10_step [mR (some 188), mI (nI k)] (I1, J1) = ((M_X10_isOver [mR (some 188), mI (nI k), mI how] (rF Z D' G' c', J1)).bind fun u3 => (asI u3.1).bind fun y4 => some (some (mI y4), u3.2)) ∧ r0 = (if 0 ≤ q then q_X1_nodeOf V' q else q) ∧ r1 = (if 0 ≤ q then q else -1) ∧ (if how = 0 then 1 else how) = if q < 0 then q else 1 := by
          rcases alt with ⟨a', qa, at', da, dn, _, _, ev⟩ | ⟨hh, ev⟩
          · have qa : q = nI a' := qa
            have at' : At V' a' := at'
            have dn : D' (701 + 9 * a' + 3) = V' 4 a' := dn
            have a64 := at'.1
            have q0 : 0 ≤ q := by rw [qa]; exact nI_pos' (by omega)
            have q0' : ¬ q < 0 := Int32.not_lt.mpr q0
            have ev : M_X10_step [mR (some 188), mI (nI k)] (I1, J1) = if q_X7_isThrough 12 K' P = 0 then some (some (mI 0), (rF Z D' G' c', J1)) else (M_X10_isOver [mR (some 188), mI (nI k), mI 0] (rF Z D' G' c', J1)).bind fun u3 => (asI u3.1).bind fun y4 => some (some (mI y4), u3.2) := ev
            rw [if_neg (fun w => go ⟨q0, w⟩)] at ev
            refine ⟨0, V' 4 a', nI a', Or.inl ⟨rfl, a', by omega, da, dn, rfl⟩, ev, ?_, ?_, ?_⟩
            · rw [if_pos q0, qa]
              unfold q_X1_nodeOf
              rw [Inv.isE a64 (by rw [at'.2.1]; exact i10), if_neg i10, ix64 a64]
            · rw [if_pos q0, qa]
            · rw [if_pos rfl, if_neg q0']
          · have hh : q = -2 ∨ q = -3 := hh
            have q0 : ¬ 0 ≤ q := by rcases hh with z | z <;> rw [z] <;> decide
            have q0' : q < 0 := by rcases hh with z | z <;> rw [z] <;> decide
            have qn : ¬ q = 0 := by rcases hh with z | z <;> rw [z] <;> decide
            exact ⟨q, q, -1, Or.inr ⟨qn, rfl, rfl⟩, ev, by rw [if_neg q0], by rw [if_neg q0], by rw [if_neg qn, if_pos q0']⟩
        obtain ⟨how, r0, r1', hr, ev, er0, er1, ea⟩ := alt2
        have zI : ∀ y, y ≠ 188 → y ≠ 201 → ovI Z r0 r1' (D' (17 + 96 * k + 2)) (D' (17 + 96 * k + 1)) y = Z y := fun y p s => ovI_o _ _ _ _ _ p s
        obtain ⟨D2, G2, s1, s2⟩ := r1.sweeps i1 rl (ovI Z r0 r1' (D' (17 + 96 * k + 2)) (D' (17 + 96 * k + 1))) (by rw [ovI_k _ _ _ _ _ (by decide)]; exact zf.2.1) G' c' (V' := V2) (fun q _ p1 p5 _ => kV q p1 p5) ⟨by rw [kV 0 (by decide) (by decide)], by rw [kV 0 (by decide) (by decide)], by rw [kV 0 (by decide) (by decide)], by rw [kV 0 (by decide) (by decide)]⟩ v1
        have we := w_isOver rl Z D' G' c' k4 mm1 mm2 mm3 hr s1
        rw [we] at ev
        simp only [Option.bind_some, asI_I] at ev
        rw [ea] at ev
        have zl := zf.2.2.2.1
        have fo : ∀ y, y ≠ 188 → y ≠ 201 → y ≠ 194 → y ≠ 195 → rF (ovI Z r0 r1' (D' (17 + 96 * k + 2)) (D' (17 + 96 * k + 1))) D2 G2 c' y = Z y := fun y p s u v => by rw [rF_o _ _ _ _ p u v, zI y p s]
        refine ⟨_, _, _, J1, uE2, ev, fin _ J1 (fun y p1 p2 p3 p4 p5 p6 p7 p8 => fo y p1 p7 p4 p5) (fun j p1 p2 p3 => by rw [rF_k _ _ _ _ p2, ovI_k _ _ _ _ _ p3]) (h.2.2.2.1.fr ?_ ?_) ⟨?_, fun _ j hj => ?_⟩ (Wd.mk i3 (C2.sub (fun f hf w => ?_) (kV 9 (by decide) (by decide))) s2 ?_ ?_ ?_ ?_ (rF_D _ _ _ _)) j6 rfl⟩
        · rw [fo 186 (by decide) (by decide) (by decide) (by decide), zl 186 (by decide), aX 186 (by decide) (by decide) (by omega), xo 186 (by decide) (by decide)]
        · rw [fo 190 (by decide) (by decide) (by decide) (by decide), zf.2.2.2.2.1]
        · rw [fo 0 (by decide) (by decide) (by decide) (by decide), zl 0 (by decide), jO 0 (by omega), t0.1, rF_k _ _ _ _ (by decide), ovI_32]
        · rw [fo 187 (by decide) (by decide) (by decide) (by decide), zl 187 (by decide), jO 187 (by omega), rF_o _ _ _ _ (by decide) (by decide) (by decide)]
          have ro := ovI_r Z r0 r1' (D' (17 + 96 * k + 2)) (D' (17 + 96 * k + 1))
          rcases (show j = 0 ∨ j = 1 ∨ j = 2 ∨ j = 3 by omega) with z | z | z | z
          · rw [z, t187.1, ro.1, er0]
          · rw [z, t187.2.1, ro.2.1, er1]
          · rw [z, t187.2.2.1, ro.2.2.1, dr]
          · rw [z, t187.2.2.2, ro.2.2.2, dh]
        · rw [v1 f hf] at w
          by_cases z : V' 1 f = 2 ∧ hc V' (vw 1 I 29) (wkS (wks I 31) k (K2, P, B')) f = 0
          · rw [if_pos z] at w; exact absurd rfl w
          · rw [if_neg z] at w; exact w
        · rw [vw_fr (I := X) (fun y p s => by rw [fo y (by omega) (by omega) (by omega) (by omega), zl y (by omega), aX y (by omega) (by omega) (by omega)])]; exact e1
        · rw [vw_fr (I := I1) (fun y p s => by rw [fo y (by omega) (by omega) (by omega) (by omega), zl y (by omega)])]; exact jV
        · rw [vw_fr (I := X) (fun y p s => by rw [fo y (by omega) (by omega) (by omega) (by omega), zl y (by omega), aX y (by omega) (by omega) (by omega)])]; exact e3
        · refine wkj _ (K2, P, B') ?_ ?_ ?_ (fun y p s w => by rw [fo y (by omega) (by omega) (by omega) (by omega), zl y (by omega), aX y (by omega) (by omega) (by omega), e4 y p s])
          · rw [vw_fr (I := I1) (fun y p s => by rw [fo y (by omega) (by omega) (by omega) (by omega), zl y (by omega)])]; exact jK
          · rw [vw_fr (I := I2) (fun y p s => by rw [fo y (by omega) (by omega) (by omega) (by omega), zl y (by omega), jO y (by omega)])]; exact hP
          · rw [vw_fr (I := I2) (fun y p s => by rw [fo y (by omega) (by omega) (by omega) (by omega), zl y (by omega), jO y (by omega)])]; exact hB
  · have w0 : q_X8_walkerAt I 31 x = none := by
      unfold q_X8_walkerAt
      by_cases a : x < 0
      · rw [if_pos a]
      · by_cases b : (4 : Int32) ≤ x
        · rw [if_neg a, if_pos b]
        · have : wz I 31 (ix x) = 0 := u.2.2.1.2.2.2.2.2.2 _ (lt4 a b)
          rw [if_neg a, if_neg b, if_pos this]
    refine Pair.no h h30 (k := 5) (by decide) (u_step_no h.1.1 I x w0) (refs _ ?_)
    rw [E_X10_isWalker]
    simp only [h.1.2.fz, Option.bind_some, rfz_o I 5 (show (188 : Nat) ≠ 186 by decide), u.2.1, if_true]
    simp
end

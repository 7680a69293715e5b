/-! What a walker takes along its way. -/
def wkS (W : WkV) (k : Nat) (w : OneV × RouV × TriV) : WkV := fun j => if j = k then w else W j
theorem wkS_s (W : WkV) (k : Nat) (w : OneV × RouV × TriV) : wkS W k w k = w := if_pos rfl
theorem wkS_n (W : WkV) {k j : Nat} (w : OneV × RouV × TriV) (h : j ≠ k) : wkS W k w j = W j := if_neg h
def TkO (m tl k : Nat) (K : OneV) (B : TriV) (V : MemV) (o : OneV × TriV × MemV) : Prop := o.1 0 4 = nI (m + tl) ∧ (∀ j, j ≠ 4 → o.1 0 j = K 0 j) ∧ (∀ j, m + k ≤ j → j < m + tl → o.2.1 0 j = V 11 (j - m) ∧ o.2.1 1 j = V 8 (ix (V 11 (j - m))) ∧ o.2.1 2 j = V 6 (ix (V 11 (j - m)))) ∧ (∀ (q : Fin 3) (j : Nat), j < m + k ∨ m + tl ≤ j → o.2.1 q j = B q j) ∧ (∀ r : Fin 12, r ≠ 5 → o.2.2 r = V r) ∧ ∀ f, f < 64 → o.2.2 5 f = if bz (K 0 6) = 0 then V 5 f else V 5 f + nI (cnt (fun j => decide (V 11 j = nI f)) k (tl - k))
theorem At.abs {V : MemV} {f : Nat} (h : At V f) : q_X1_isAbsence V (nI f) = 0 := by
  unfold q_X1_isAbsence
  rw [Inv.isE h.1 (by rw [h.2.1]; exact i10), if_neg i10, ix64 h.1, if_neg h.2.2]
theorem tkt_loop {m tl : Nat} (tl2 : tl ≤ 2) (mb : m + tl ≤ 25) : ∀ (nn k : Nat) (K : OneV) (B : TriV) (V : MemV), k + nn = 2 → k ≤ tl → K 0 4 = nI (m + k) → V 0 16 = nI tl → (∀ j, k ≤ j → j < tl → ∃ f, V 11 j = nI f ∧ At V f) → TkO m tl k K B V (lp_X7_takeTrail_2 nn k K B V) := by
  intro nn
  induction nn with
  | zero =>
    intro k K B V hk kt h4 h16 ha
    have z : k = tl := by omega
    subst z
    have e : lp_X7_takeTrail_2 0 k K B V = (K, B, V) := by
      show (if (V 0 16) ≤ (nI k) then (K, B, V) else (K, B, V)) = _
      rw [ite_self]
    rw [e]
    refine ⟨h4, fun _ _ => rfl, fun j a b => by omega, fun _ _ _ => rfl, fun _ _ => rfl, fun f _ => ?_⟩
    rw [Nat.sub_self]
    show V 5 f = if bz (K 0 6) = 0 then V 5 f else V 5 f + nI 0
    rw [show V 5 f + nI 0 = V 5 f from Int32.add_zero _, ite_self]
  | succ nn ih =>
    intro k K B V hk kt h4 h16 ha
    have st : lp_X7_takeTrail_2 (nn + 1) k K B V = (if (V 0 16) ≤ (nI k) then (K, B, V) else (if (q_X1_isEntry V (V 11 k)) = 0 then lp_X7_takeTrail_2  nn (k + 1) K B V else (if (q_X1_isAbsence V (V 11 k)) = 0 then (if (K 0 4) < 0 then lp_X7_takeTrail_2  nn (k + 1) K B V else (if (25 : Int32) ≤ (K 0 4) then lp_X7_takeTrail_2  nn (k + 1) K B V else (if (bz (K 0 6)) = 0 then lp_X7_takeTrail_2  nn (k + 1) (uv K 0 4 ((K 0 4) + 1)) (uv (uv (uv B 0 (ix (K 0 4)) (V 11 k)) 1 (ix (K 0 4)) (V 8 (ix (V 11 k)))) 2 (ix (K 0 4)) (V 6 (ix (V 11 k)))) V else lp_X7_takeTrail_2  nn (k + 1) (uv K 0 4 ((K 0 4) + 1)) (uv (uv (uv B 0 (ix (K 0 4)) (V 11 k)) 1 (ix (K 0 4)) (V 8 (ix (V 11 k)))) 2 (ix (K 0 4)) (V 6 (ix (V 11 k)))) (gV_X1_hold V (V 11 k))))) else lp_X7_takeTrail_2  nn (k + 1) K B V))) := rfl
    by_cases z : k = tl
    · subst z
      rw [st, if_pos (by rw [h16]; exact Int32.le_refl _)]
      refine ⟨h4, fun _ _ => rfl, fun j a b => by omega, fun _ _ _ => rfl, fun _ _ => rfl, fun f _ => ?_⟩
      rw [Nat.sub_self]
      show V 5 f = if bz (K 0 6) = 0 then V 5 f else V 5 f + nI 0
      rw [show V 5 f + nI 0 = V 5 f from Int32.add_zero _, ite_self]
    · obtain ⟨f, f1, fa⟩ := ha k (Nat.le_refl _) (by omega)
      have isE := Inv.isE fa.1 (show ¬ V 1 f = 0 by rw [fa.2.1]; exact i10)
      have mk : m + k < 25 := by omega
      rw [st, if_neg (by rw [h16]; exact nI_ge (show k < tl by omega) (by omega)), f1, isE, if_neg i10, fa.abs, if_pos rfl, h4, if_neg (nI_pos (show m + k < 2 ^ 31 by omega)), if_neg (show ¬ (25 : Int32) ≤ nI (m + k) from nI_ge mk (by decide)), show ix (nI (m + k)) = m + k from ix_nI (by omega), ix64 fa.1, nI_1]
      have kk4 : (uv K 0 4 (nI (m + k + 1))) 0 4 = nI (m + (k + 1)) := by rw [uv_s, Nat.add_assoc]
      have kkj : ∀ j, j ≠ 4 → (uv K 0 4 (nI (m + k + 1))) 0 j = K 0 j := fun j q => uv_n _ _ _ _ _ _ (fun w => q w.2)
      have bO : ∀ (q : Fin 3) (j : Nat), j ≠ m + k → (uv (uv (uv B 0 (m + k) (nI f)) 1 (m + k) (V 8 f)) 2 (m + k) (V 6 f)) q j = B q j := fun q j w => by
        rw [uv_n _ _ _ _ _ _ (fun z => w z.2), uv_n _ _ _ _ _ _ (fun z => w z.2), uv_n _ _ _ _ _ _ (fun z => w z.2)]
      have b0 : (uv (uv (uv B 0 (m + k) (nI f)) 1 (m + k) (V 8 f)) 2 (m + k) (V 6 f)) 0 (m + k) = nI f := by
        rw [uv_n _ _ _ _ _ _ (fun z => absurd z.1 (by decide)), uv_n _ _ _ _ _ _ (fun z => absurd z.1 (by decide)), uv_s]
      have b1 : (uv (uv (uv B 0 (m + k) (nI f)) 1 (m + k) (V 8 f)) 2 (m + k) (V 6 f)) 1 (m + k) = V 8 f := by
        rw [uv_n _ _ _ _ _ _ (fun z => absurd z.1 (by decide)), uv_s]
      have b2 : (uv (uv (uv B 0 (m + k) (nI f)) 1 (m + k) (V 8 f)) 2 (m + k) (V 6 f)) 2 (m + k) = V 6 f := uv_s _ _ _ _
      have fin : ∀ (V1 : MemV) (o : OneV × TriV × MemV), (∀ r : Fin 12, r ≠ 5 → V1 r = V r) → TkO m tl (k + 1) (uv K 0 4 (nI (m + k + 1))) (uv (uv (uv B 0 (m + k) (nI f)) 1 (m + k) (V 8 f)) 2 (m + k) (V 6 f)) V1 o → (∀ g, g < 64 → o.2.2 5 g = if bz (K 0 6) = 0 then V 5 g else V 5 g + nI (cnt (fun j => decide (V 11 j = nI g)) k (tl - k))) → TkO m tl k K B V o := by
        intro V1 o kv ⟨o1, o2, o3, o4, o5, o6⟩ o7
        refine ⟨o1, fun j q => by rw [o2 j q, kkj j q], fun j p q => ?_, fun q j w => ?_, fun r w => by rw [o5 r w, kv r w], o7⟩
        · by_cases w : j = m + k
          · subst w
            rw [o4 0 _ (Or.inl (by omega)), o4 1 _ (Or.inl (by omega)), o4 2 _ (Or.inl (by omega)), b0, b1, b2, Nat.add_sub_cancel_left, f1, ix64 fa.1]
            exact ⟨rfl, rfl, rfl⟩
          · have := o3 j (by omega) q
            rw [kv 11 (by decide), kv 8 (by decide), kv 6 (by decide)] at this
            exact this
        · rw [o4 q j (by omega), bO q j (by omega)]
      have k6 : bz ((uv K 0 4 (nI (m + k + 1))) 0 6) = bz (K 0 6) := by rw [kkj 6 (by decide)]
      have cs : ∀ g, g < 64 → cnt (fun j => decide (V 11 j = nI g)) k (tl - k) = (if g = f then 1 else 0) + cnt (fun j => decide (V 11 j = nI g)) (k + 1) (tl - (k + 1)) := fun g hg => by
        rw [show tl - k = (tl - (k + 1)) + 1 by omega]
        show (if decide (V 11 k = nI g) = true then 1 else 0) + cnt (fun j => decide (V 11 j = nI g)) (k + 1) (tl - (k + 1)) = _
        congr 1
        rw [f1]
        by_cases w : g = f
        · rw [w]; simp
        · have : ¬ nI f = nI g := fun y => w ((nI_eq (by have := fa.1; omega) (by omega)).mp y).symm
          simp [w, this]
      by_cases hv : bz (K 0 6) = 0
      · rw [if_pos hv]
        have i1 := ih (k + 1) (uv K 0 4 (nI (m + k + 1))) (uv (uv (uv B 0 (m + k) (nI f)) 1 (m + k) (V 8 f)) 2 (m + k) (V 6 f)) V (by omega) (by omega) kk4 h16 (fun j p q => ha j (by omega) q)
        refine fin V _ (fun _ _ => rfl) i1 (fun g hg => ?_)
        have := i1.2.2.2.2.2 g hg
        rw [k6, if_pos hv] at this
        rw [if_pos hv]
        exact this
      · rw [if_neg hv]
        have ho := ho_k V (nI f)
        have i1 := ih (k + 1) (uv K 0 4 (nI (m + k + 1))) (uv (uv (uv B 0 (m + k) (nI f)) 1 (m + k) (V 8 f)) 2 (m + k) (V 6 f)) (gV_X1_hold V (nI f)) (by omega) (by omega) kk4 (by rw [ho 0 (by decide)]; exact h16) (fun j p q => by
          obtain ⟨g, g1, g2⟩ := ha j (by omega) q
          exact ⟨g, by rw [ho 11 (by decide)]; exact g1, g2.1, by rw [ho 1 (by decide)]; exact g2.2.1, by rw [ho 4 (by decide)]; exact g2.2.2⟩)
        refine fin (gV_X1_hold V (nI f)) _ (fun r q => ho r q) i1 (fun g hg => ?_)
        have := i1.2.2.2.2.2 g hg
        rw [k6, if_neg hv, ho 11 (by decide), ho_5 V fa.1] at this
        rw [if_neg hv, cs g hg, this]
        by_cases w : g = f
        · rw [if_pos w, if_pos w, w, ← nI_add, ← Int32.add_assoc]
          rfl
        · rw [if_neg w, if_neg w, Nat.zero_add]
theorem tkt_all {m tl : Nat} (tl2 : tl ≤ 2) (mb : m + tl ≤ 25) {K : OneV} {B : TriV} {V : MemV} (h4 : K 0 4 = nI m) (h16 : V 0 16 = nI tl) (ha : ∀ j, j < tl → ∃ f, V 11 j = nI f ∧ At V f) : TkO m tl 0 K B V (gK_X7_takeTrail K B V, gB_X7_takeTrail K B V, gV_X7_takeTrail K B V) :=
  tkt_loop tl2 mb 2 0 K B V rfl (Nat.zero_le _) h4 h16 (fun j _ q => ha j q)
/-- an absence is not taken along -/
theorem tkt_no {K : OneV} {B : TriV} {V : MemV} {tl : Nat} (h16 : V 0 16 = nI tl) (h1 : tl ≤ 1) (ha : tl = 1 → ∃ e, e < 64 ∧ V 11 0 = nI e ∧ V 1 e = 1 ∧ V 4 e = -1) : gK_X7_takeTrail K B V = K ∧ gB_X7_takeTrail K B V = B ∧ gV_X7_takeTrail K B V = V := by
  have key : lp_X7_takeTrail_2 2 0 K B V = (K, B, V) := by
    by_cases z : tl = 0
    · subst z
      show (if (V 0 16) ≤ (nI 0) then (K, B, V) else _) = _
      rw [if_pos (by rw [h16]; exact Int32.le_refl _)]
    · have t1 : tl = 1 := by omega
      subst t1
      obtain ⟨e, e64, e1, e2, e3⟩ := ha rfl
      have isE := Inv.isE e64 (show ¬ V 1 e = 0 by rw [e2]; exact i10)
      have ab : q_X1_isAbsence V (nI e) = 1 := by
        unfold q_X1_isAbsence
        rw [isE, if_neg i10, ix64 e64, if_pos e3]
      have st : lp_X7_takeTrail_2 1 1 K B V = (K, B, V) := by
        show (if (V 0 16) ≤ (nI 1) then (K, B, V) else _) = _
        rw [if_pos (by rw [h16]; exact Int32.le_refl _)]
      have s2 : lp_X7_takeTrail_2 2 0 K B V = (if (V 0 16) ≤ (nI 0) then (K, B, V) else (if (q_X1_isEntry V (V 11 0)) = 0 then lp_X7_takeTrail_2  1 (0 + 1) K B V else (if (q_X1_isAbsence V (V 11 0)) = 0 then (if (K 0 4) < 0 then lp_X7_takeTrail_2  1 (0 + 1) K B V else (if (25 : Int32) ≤ (K 0 4) then lp_X7_takeTrail_2  1 (0 + 1) K B V else (if (bz (K 0 6)) = 0 then lp_X7_takeTrail_2  1 (0 + 1) (uv K 0 4 ((K 0 4) + 1)) (uv (uv (uv B 0 (ix (K 0 4)) (V 11 0)) 1 (ix (K 0 4)) (V 8 (ix (V 11 0)))) 2 (ix (K 0 4)) (V 6 (ix (V 11 0)))) V else lp_X7_takeTrail_2  1 (0 + 1) (uv K 0 4 ((K 0 4) + 1)) (uv (uv (uv B 0 (ix (K 0 4)) (V 11 0)) 1 (ix (K 0 4)) (V 8 (ix (V 11 0)))) 2 (ix (K 0 4)) (V 6 (ix (V 11 0)))) (gV_X1_hold V (V 11 0))))) else lp_X7_takeTrail_2  1 (0 + 1) K B V))) := rfl
      rw [s2, if_neg (by rw [h16]; exact nI_ge (show 0 < 1 by omega) (by omega)), e1, isE, if_neg i10, ab, if_neg i10]
      exact st
  unfold gK_X7_takeTrail gB_X7_takeTrail gV_X7_takeTrail o_X7_takeTrail
  rw [key]
  exact ⟨rfl, rfl, rfl⟩
/-- another walker in place of one: what holds stays -/
theorem Inv.wset {U : NodV} {V V' : MemV} {H : OneV} {W W' : WkV} {n vol t T : Nat} (i : Inv U V H W n vol t T (fun _ => 0)) {k : Nat} (hk : k < 4) (w1 : ∀ j, j ≠ k → W' j = W j) (y : Nat → Nat) (hy : ∀ f, f < 64 → hcK (W' k) f = hcK (W k) f + y f) (kv : ∀ r : Fin 12, r ≠ 0 → r ≠ 5 → V' r = V r) (k0 : V' 0 11 = V 0 11 ∧ V' 0 12 = V 0 12 ∧ V' 0 14 = V 0 14) (v5 : ∀ f, f < 64 → ¬ V 1 f = 0 → V' 5 f = V 5 f + nI (y f)) (hw : ¬ bz ((W' k).1 0 5) = 0 → ∃ m d l r, r ≤ 3 ∧ WkI V t T (W' k) m d l r) : Inv U V' H W' n vol t T (fun _ => 0) := by
  have hh : ∀ f, f < 64 → hc V' H W' f = hc V H W f + y f := fun f hf => by
    have s := sm_one (a := fun j => hcK (W j) f) (a' := fun j => hcK (W' j) f) (e := k) (n := 4) (k := 0) (Nat.zero_le _) (by omega) (fun j _ _ z => by
      show hcK (W' j) f = hcK (W j) f
      rw [w1 j z])
    have s' : hcW W' f + hcK (W k) f = hcW W f + hcK (W' k) f := s
    rw [hy f hf] at s'
    have c1 : hcC V' f = hcC V f := by
      unfold hcC
      rw [kv 1 (by decide) (by decide), kv 2 (by decide) (by decide)]
    have c2 : hcV V' f = hcV V f := by
      unfold hcV
      rw [kv 10 (by decide) (by decide)]
    unfold hc
    rw [c1, c2]
    omega
  refine i.h5 kv k0 (fun f hf => ?_) i.H (fun j hj q => ?_)
  · obtain ⟨l1, l2, l3⟩ := i.L f hf
    refine ⟨fun _ => rfl, Nat.zero_le _, fun z => ?_⟩
    rw [kv 1 (by decide) (by decide)] at z
    obtain ⟨m1, m2⟩ := l3 z
    simp only [Nat.add_zero] at m1 m2 ⊢
    rw [hh f hf, v5 f hf z, m1, kv 1 (by decide) (by decide)]
    exact ⟨nI_add _ _, fun s => by have := m2 s; omega⟩
  · by_cases z : j = k
    · subst z
      exact hw q
    · rw [w1 j z] at q ⊢
      exact i.W j hj q
theorem WayI.new {V : MemV} {t T : Nat} (z : NumI V t T) {f : Nat} (ha : At V f) (hv : Int32) : WayI V t T hv (nI f) (V 8 f) (V 6 f) := by
  have f0 : ¬ V 1 f = 0 := by rw [ha.2.1]; exact i10
  obtain ⟨b, b1, b2⟩ := z.bi f ha.1 f0
  obtain ⟨c, c1, c2⟩ := z.co f ha.1 f0
  exact ⟨f, ha.1, rfl, ⟨b, c, b1, b2, c1, c2, fun _ _ => ⟨c, c1, Nat.le_refl _, c2, fun _ => ha.2⟩⟩, fun _ => ⟨f0, ha.2.2⟩⟩
theorem hcK_tk {K K' : OneV} {P : RouV} {B B' : TriV} {V V' : MemV} {m tl : Nat} (h4 : K 0 4 = nI m) (mb : m + tl ≤ 25) (o : TkO m tl 0 K B V (K', B', V')) (uw : ¬ bz (K 0 5) = 0) (f : Nat) : hcK (K', P, B') f = hcK (K, P, B) f + if bz (K 0 6) = 0 then 0 else cnt (fun j => decide (V 11 j = nI f)) 0 tl := by
  obtain ⟨o1, o2, o3, o4, o5, o6⟩ := o
  have e5 : bz (K' 0 5) = bz (K 0 5) := congrArg bz (o2 5 (by decide))
  have e6 : bz (K' 0 6) = bz (K 0 6) := congrArg bz (o2 6 (by decide))
  have o1' : K' 0 4 = nI (m + tl) := o1
  show (if bz (K' 0 5) = 0 ∨ bz (K' 0 6) = 0 then 0 else cnt (fun k => decide (B' 0 k = nI f)) 0 (ix (K' 0 4))) = (if bz (K 0 5) = 0 ∨ bz (K 0 6) = 0 then 0 else cnt (fun k => decide (B 0 k = nI f)) 0 (ix (K 0 4))) + _
  rw [e5, e6, o1', h4, ix_nI (by omega), ix_nI (by omega)]
  by_cases hv : bz (K 0 6) = 0
  · rw [if_pos (Or.inr hv), if_pos (Or.inr hv), if_pos hv]
  · rw [if_neg (fun z => z.elim uw hv), if_neg (fun z => z.elim uw hv), if_neg hv, cnt_add, Nat.zero_add]
    have c1 : cnt (fun k => decide (B' 0 k = nI f)) 0 m = cnt (fun k => decide (B 0 k = nI f)) 0 m := cnt_cong (fun j _ hj => by
      have : B' 0 j = B 0 j := o4 0 j (Or.inl (by omega))
      rw [this])
    have c2 : cnt (fun k => decide (B' 0 k = nI f)) m tl = cnt (fun j => decide (V 11 j = nI f)) 0 tl := by
      have := cnt_shift (fun k => decide (B' 0 k = nI f)) m tl 0
      rw [Nat.add_zero] at this
      rw [this]
      refine cnt_cong (fun j _ hj => ?_)
      have : B' 0 (m + j) = V 11 j := by
        have := (o3 (m + j) (by omega) (by omega)).1
        rw [Nat.add_sub_cancel_left] at this
        exact this
      rw [this]
    rw [c1, c2]
/-- a walker that takes its trail along: what holds stays -/
theorem Inv.tk {U : NodV} {V V' : MemV} {H : OneV} {W W' : WkV} {n vol t T : Nat} (i : Inv U V H W n vol t T (fun _ => 0)) {k : Nat} (hk : k < 4) {K K' : OneV} {P : RouV} {B B' : TriV} {m tl d l r : Nat} (wk : W k = (K, P, B)) (w1 : ∀ j, j ≠ k → W' j = W j) (wk' : W' k = (K', P, B')) (wi : m = 0 ∧ d = 0 ∨ 1 ≤ m ∧ m + tl ≤ 1 + 2 * d ∧ ∀ j, j < m → WayI V t T (bz (K 0 6)) (B 0 j) (B 1 j) (B 2 j)) (m1 : 1 ≤ m + tl) (mt : m + tl ≤ 1 + 2 * d) (tl2 : tl ≤ 2) (dl : d ≤ l) (l12 : l ≤ 12) (r3 : r ≤ 3) (h4 : K 0 4 = nI m) (h8 : K 0 8 = nI d) (hl : P 0 1 = nI l) (h7 : K 0 7 = nI r) (uw : ¬ bz (K 0 5) = 0) (ha : ∀ j, j < tl → ∃ f, V 11 j = nI f ∧ At V f) (o : TkO m tl 0 K B V (K', B', V')) : Inv U V' H W' n vol t T (fun _ => 0) ∧ WkI V' t T (W' k) (m + tl) d l r := by
  have o' := o
  obtain ⟨o1, o2, o3, o4, o5, o6⟩ := o
  have mb : m + tl ≤ 25 := by omega
  have e6 : bz (K' 0 6) = bz (K 0 6) := congrArg bz (o2 6 (by decide))
  have old : ∀ j, j < m → WayI V t T (bz (K 0 6)) (B 0 j) (B 1 j) (B 2 j) := by
    rcases wi with ⟨z, _⟩ | ⟨_, _, z⟩
    · intro j hj
      omega
    · exact z
  have wI : WkI V t T (W' k) (m + tl) d l r := by
    rw [wk']
    refine ⟨o1, (o2 8 (by decide)).trans h8, hl, (o2 7 (by decide)).trans h7, m1, mt, dl, l12, r3, fun j hj => ?_⟩
    show WayI V t T (bz (K' 0 6)) (B' 0 j) (B' 1 j) (B' 2 j)
    rw [e6]
    by_cases z : j < m
    · have b0 : B' 0 j = B 0 j := o4 0 j (Or.inl (by omega))
      have b1 : B' 1 j = B 1 j := o4 1 j (Or.inl (by omega))
      have b2 : B' 2 j = B 2 j := o4 2 j (Or.inl (by omega))
      rw [b0, b1, b2]
      exact old j z
    · obtain ⟨f, f1, fa⟩ := ha (j - m) (by omega)
      obtain ⟨b0, b1, b2⟩ := o3 j (by omega) hj
      have b0 : B' 0 j = V 11 (j - m) := b0
      have b1 : B' 1 j = V 8 (ix (V 11 (j - m))) := b1
      have b2 : B' 2 j = V 6 (ix (V 11 (j - m))) := b2
      rw [b0, b1, b2, f1, ix64 fa.1]
      exact WayI.new i.Z fa _
  have kv : ∀ r : Fin 12, r ≠ 5 → V' r = V r := o5
  refine ⟨i.wset hk w1 (fun f => if bz (K 0 6) = 0 then 0 else cnt (fun j => decide (V 11 j = nI f)) 0 tl) (fun f _ => by rw [wk, wk']; exact hcK_tk h4 mb o' uw f) (fun r _ h => kv r h) ⟨by rw [kv 0 (by decide)], by rw [kv 0 (by decide)], by rw [kv 0 (by decide)]⟩ (fun f hf _ => ?_) (fun _ => ⟨_, _, _, _, r3, wI⟩), wI.fr (kv 1 (by decide)) (kv 4 (by decide)) (kv 6 (by decide)) (kv 8 (by decide)) (Nat.le_refl _) (Nat.le_refl _)⟩
  have := o6 f hf
  rw [Nat.sub_zero] at this
  show V' 5 f = _
  rw [show V' 5 f = _ from this]
  by_cases hv : bz (K 0 6) = 0
  · rw [if_pos hv, if_pos hv]
    exact (Int32.add_zero _).symm
  · rw [if_neg hv, if_neg hv]

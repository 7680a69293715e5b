/-! Mounts alone: what holds of them; the reference's side. -/
theorem mk_m1 (V : MemV) (j : Nat) : ∀ f, mkB V f (-1) j = false
  | 0 => rfl
  | f + 1 => by
    rw [mkB_s, if_pos]
    unfold q_X1_isEntry
    rw [if_pos (by decide)]
theorem mk_self {V : MemV} {g : Nat} (g64 : g < 64) (g1 : ¬ V 1 g = 0) (f : Nat) : mkB V (f + 1) (nI g) g = true := by
  rw [mkB_s, Inv.isE g64 g1, if_neg i10, if_pos rfl]
theorem mk_at {U : NodV} {V : MemV} {n vol : Nat} (hN : NodI U n vol) (hM : MemI U V n vol) : ∀ (f g e : Nat), At V g → e < 2 ^ 31 → mkB V f (nI g) e = true → At V e
  | 0, g, e, _, _, h => by cases h
  | f + 1, g, e, hg, he, h => by
    have n60 := hN.n60
    have g64 := hg.1
    have g0 : ¬ V 1 g = 0 := by rw [hg.2.1]; exact i10
    rw [mkB_s, Inv.isE g64 g0, if_neg i10, ix_nI (by omega)] at h
    by_cases z : nI g = nI e
    · have : g = e := (nI_eq (by omega) (by omega)).mp z
      rw [← this]; exact hg
    · rw [if_neg z] at h
      by_cases w : V 2 g = -1
      · rw [w, mk_m1] at h; cases h
      · obtain ⟨k, kn, ke, _⟩ := hM.nk hN hg
        obtain ⟨p, kp, p64, p2, p1, kpn, kp4, _⟩ := hM.up hN g64 hg.2.1 w ke kn
        rw [p2] at h
        exact mk_at hN hM f p e ⟨p64, p1, by rw [kp4]; exact nI_m1 (by omega)⟩ he h
theorem mk_par {V : MemV} {e p : Nat} (e64 : e < 64) (e2 : V 2 e = nI p) (p64 : p < 64) (p1 : ¬ V 1 p = 0) : ∀ (f : Nat) (x : Int32), mkB V f x e = true → mkB V (f + 1) x p = true
  | 0, x, h => by cases h
  | f + 1, x, h => by
    rw [mkB_s] at h ⊢
    by_cases z : q_X1_isEntry V x = 0
    · rw [if_pos z] at h; cases h
    · rw [if_neg z] at h ⊢
      by_cases w : x = nI p
      · rw [if_pos w]
      · rw [if_neg w]
        by_cases y : x = nI e
        · rw [y, ix_nI (by omega), e2]
          exact mk_self p64 p1 f
        · rw [if_neg y] at h
          exact mk_par e64 e2 p64 p1 f _ h
theorem mk_st {U : NodV} {V : MemV} {n vol : Nat} (hN : NodI U n vol) (hM : MemI U V n vol) {d : Nat → Nat} (hd : ∀ k p, k < n → p < n → ¬ U 4 k = 0 → U 2 k = nI p → d p < d k) (j : Nat) : ∀ (f g k : Nat), At V g → V 4 g = nI k → k < n → rkc d n k < f → mkB V (f + 1) (nI g) j = mkB V f (nI g) j
  | 0, g, k, _, _, _, h => by omega
  | f + 1, g, k, hg, g4, kn, h => by
    have n60 := hN.n60
    have g64 := hg.1
    rw [mkB_s V (f + 1) (nI g) j, mkB_s V f (nI g) j]
    by_cases w : V 2 g = -1
    · rw [ix_nI (by omega), w, mk_m1, mk_m1]
    · obtain ⟨p, kp, p64, p2, p1, kpn, kp4, u2, _, u4, _⟩ := hM.up hN g64 hg.2.1 w g4 kn
      have := rkc_lt (n := n) kpn (hd k kp kn kpn u4 u2)
      rw [ix_nI (by omega), p2, mk_st hN hM hd j f p kp ⟨p64, p1, by rw [kp4]; exact nI_m1 (by omega)⟩ kp4 kpn (by omega)]
theorem kB_iff (V : MemV) (j : Nat) : kB V j = true ↔ ∃ v, v < 3 ∧ (mkB V 64 (V 9 v) j = true ∨ mkB V 64 (V 10 v) j = true) := by
  unfold kB
  rw [Bool.or_eq_true, Bool.or_eq_true, Bool.or_eq_true, Bool.or_eq_true, Bool.or_eq_true]
  constructor
  · rintro (a | a | a)
    · exact ⟨0, by decide, a⟩
    · exact ⟨1, by decide, a⟩
    · exact ⟨2, by decide, a⟩
  · rintro ⟨v, hv, a⟩
    rcases (show v = 0 ∨ v = 1 ∨ v = 2 by omega) with z | z | z
    · subst z; exact Or.inl a
    · subst z; exact Or.inr (Or.inl a)
    · subst z; exact Or.inr (Or.inr a)
/-- what marks begin with -/
theorem MemI.bg {U : NodV} {V : MemV} {n vol : Nat} (hM : MemI U V n vol) (hN : NodI U n vol) {v : Nat} (hv : v < 3) : (V 9 v = -1 ∨ ∃ g, V 9 v = nI g ∧ At V g ∧ V 2 g = -1) ∧ (V 10 v = -1 ∨ ∃ g, V 10 v = nI g ∧ At V g ∧ 1 ≤ v ∧ v < vol) := by
  have n60 := hN.n60
  rcases hM.rt v hv with ⟨z1, z2⟩ | ⟨vv, r, r64, r1, r2, r3, r4⟩
  · exact ⟨Or.inl z1, Or.inl z2⟩
  · obtain ⟨s, s1, s2, _⟩ := hN.rts v vv
    refine ⟨Or.inr ⟨r, r1, ⟨r64, r2, by rw [r4, s2]; exact nI_m1 (by omega)⟩, r3⟩, ?_⟩
    by_cases v0 : v = 0
    · subst v0; exact Or.inl hM.o0
    · obtain ⟨o, o64, o1, o2, _, o4⟩ := hM.ov v (by omega) hv (by rw [r1]; exact nI_m1 (by omega))
      obtain ⟨ko, k1, k2, _⟩ := hN.fo o4
      exact Or.inr ⟨o, o1, ⟨o64, o2, by rw [k2]; exact nI_m1 (by omega)⟩, by omega, vv⟩
theorem kB_at {U : NodV} {V : MemV} {n vol : Nat} (hN : NodI U n vol) (hM : MemI U V n vol) {e : Nat} (he : e < 2 ^ 31) (h : kB V e = true) : At V e := by
  obtain ⟨v, hv, a⟩ := (kB_iff V e).mp h
  obtain ⟨b1, b2⟩ := hM.bg hN hv
  rcases a with a | a
  · rcases b1 with z | ⟨g, z, ga, _⟩
    · rw [z, mk_m1] at a; cases a
    · rw [z] at a; exact mk_at hN hM _ g e ga he a
  · rcases b2 with z | ⟨g, z, ga, _⟩
    · rw [z, mk_m1] at a; cases a
    · rw [z] at a; exact mk_at hN hM _ g e ga he a
theorem kB_par {U : NodV} {V : MemV} {n vol : Nat} (hN : NodI U n vol) (hM : MemI U V n vol) {e p : Nat} (e64 : e < 64) (e2 : V 2 e = nI p) (p64 : p < 64) (p1 : ¬ V 1 p = 0) (h : kB V e = true) : kB V p = true := by
  obtain ⟨d, hd⟩ := hN.rk
  have n60 := hN.n60
  obtain ⟨v, hv, a⟩ := (kB_iff V e).mp h
  obtain ⟨b1, b2⟩ := hM.bg hN hv
  have go : ∀ g, At V g → mkB V 64 (nI g) e = true → mkB V 64 (nI g) p = true := fun g ga q => by
    obtain ⟨k, kn, ke, _⟩ := hM.nk hN ga
    have rk := rkc_le d n k
    rw [← mk_st hN hM hd p 64 g k ga ke kn (by omega)]
    exact mk_par e64 e2 p64 p1 64 _ q
  refine (kB_iff V p).mpr ⟨v, hv, ?_⟩
  rcases a with a | a
  · rcases b1 with z | ⟨g, z, ga, _⟩
    · rw [z, mk_m1] at a; cases a
    · rw [z] at a ⊢; exact Or.inl (go g ga a)
  · rcases b2 with z | ⟨g, z, ga, _⟩
    · rw [z, mk_m1] at a; cases a
    · rw [z] at a ⊢; exact Or.inr (go g ga a)
def H00 : OneV := fun _ _ => -1
def W00 : WkV := fun _ => (fun _ _ => 0, fun _ _ => 0, fun _ _ => 0)
theorem hc00 (V : MemV) {e : Nat} (he : e < 64) : hc V H00 W00 e = hcC V e + hcV V e := by
  have a : hcH H00 e = 0 := by
    unfold hcH
    refine cnt_zero (fun j _ _ => ?_)
    simp only [decide_eq_false_iff_not]
    exact fun z => nI_m1 (show e < 2 ^ 31 by omega) z.symm
  have b : hcW W00 e = 0 := by
    have k0 : ∀ k, hcK (W00 k) e = 0 := fun k => if_pos (Or.inl rfl)
    unfold hcW
    rw [show (fun k => hcK (W00 k) e) = fun _ => 0 from funext k0]
    rfl
  unfold hc
  rw [a, b]
  omega
theorem Inv.bare {U : NodV} {V : MemV} {H : OneV} {W : WkV} {n vol t T : Nat} {x : Nat → Nat} (i : Inv U V H W n vol t T x) (C : CntI V) {l : Nat} (l4 : 4 ≤ l) (l40 : l ≤ 40) {V' : MemV} (k0 : ∀ j, j = 12 ∨ j = 13 ∨ j = 14 → V' 0 j = V 0 j) (kl : V' 0 11 = nI l) (r1 : ∀ j, j < 64 → V' 1 j = if kB V j = true then V 1 j else 0) (r5 : ∀ e, e < 64 → V' 5 e = nI (hcC V' e + hcV V' e)) (row : ∀ q : Fin 12, q = 2 ∨ q = 3 ∨ q = 4 ∨ q = 6 ∨ q = 7 ∨ q = 8 → ∀ j, j < 64 → V' q j = V q j) (row9 : ∀ v, v < 3 → V' 9 v = V 9 v ∧ V' 10 v = V 10 v) : Inv U V' H00 W00 n vol t T (fun _ => 0) ∧ CntI V' := by
  have hN := i.N
  have hM := i.M
  have n60 := hN.n60
  have e2 := row 2 (by decide)
  have e3 := row 3 (by decide)
  have e4 := row 4 (by decide)
  have e6 := row 6 (by decide)
  have e8 := row 8 (by decide)
  have e9 := fun v (hv : v < 3) => (row9 v hv).1
  have e10 := fun v (hv : v < 3) => (row9 v hv).2
  have bk : ∀ e, e < 64 → ¬ V' 1 e = 0 → kB V e = true ∧ V 1 e = 1 ∧ V' 1 e = 1 := fun e he q => by
    rw [r1 e he] at q
    by_cases z : kB V e = true
    · have a := (kB_at hN hM (by omega) z).2.1
      exact ⟨z, a, by rw [r1 e he, if_pos z]; exact a⟩
    · rw [if_neg z] at q; exact absurd rfl q
  have kp : ∀ e, e < 64 → kB V e = true → V' 1 e = 1 := fun e he q => by
    rw [r1 e he, if_pos q]
    exact (kB_at hN hM (by omega) q).2.1
  have n0 : ∀ {z : Int32}, z = 1 → ¬ z = 0 := fun h => by rw [h]; exact i10
  have n2 : ∀ e, e < 64 → ¬ V' 1 e = 2 := fun e he q => by
    have := (bk e he (by rw [q]; decide)).2.2
    rw [q] at this
    exact absurd this (by decide)
  refine ⟨⟨hN, ⟨?_, ?_, ?_, ?_, ?_, ?_, ?_, ?_, ?_, ?_, ?_, ?_⟩, ⟨by rw [k0 12 (by decide)]; exact i.Z.tk, i.Z.tT, i.Z.T30, ?_, ?_, ⟨⟨l, kl, l4, l40⟩, i.Z.tri.le (k0 14 (by decide)) (fun k hk q => n0 (bk k hk q).2.1) (Nat.le_refl _)⟩⟩, ?_, fun h _ => Or.inl rfl, fun k _ q => absurd rfl q⟩, ?_⟩
  · intro e he
    rw [r1 e he]
    split
    · exact hM.st e he
    · exact Or.inl rfl
  · obtain ⟨r, r64, r9⟩ := hM.r0
    exact ⟨r, r64, by rw [e9 0 (by decide)]; exact r9⟩
  · rw [e10 0 (by decide)]; exact hM.o0
  · intro v hv
    rw [e9 v hv, e10 v hv]
    rcases hM.rt v hv with z | ⟨vv, r, r64, q1, q2, q3, q4⟩
    · exact Or.inl z
    · refine Or.inr ⟨vv, r, r64, q1, kp r r64 ((kB_iff V r).mpr ⟨v, hv, Or.inl ?_⟩), by rw [e2 r r64]; exact q3, by rw [e4 r r64]; exact q4⟩
      rw [q1]
      exact mk_self r64 (n0 q2) 63
  · intro v h1 hv q
    rw [e9 v hv] at q
    obtain ⟨o, o64, w1, w2, w3, w4⟩ := hM.ov v h1 hv q
    refine ⟨o, o64, by rw [e10 v hv]; exact w1, kp o o64 ((kB_iff V o).mpr ⟨v, hv, Or.inr ?_⟩), by rw [e2 o o64]; exact w3, by rw [e4 o o64]; exact w4⟩
    rw [w1]
    exact mk_self o64 (n0 w2) 63
  · intro v w hv hw
    rw [e10 v hv, e10 w hw]
    exact hM.oi v w hv hw
  · obtain ⟨ρ, hρ⟩ := hM.vr
    refine ⟨ρ, fun v o k u h1 h2 h3 h4 h5 => ?_⟩
    rw [e10 v h2] at h4
    rw [e4 o h3] at h5
    exact hρ v o k u h1 h2 h3 h4 h5
  · intro e he q1 q2
    rw [e2 e he] at q2
    obtain ⟨v, hv, q3⟩ := hM.ro e he (bk e he (n0 q1)).2.1 q2
    exact ⟨v, hv, by rw [e9 v hv]; exact q3⟩
  · intro e he q1 q2
    rw [e2 e he] at q2
    obtain ⟨b1, b2, _⟩ := bk e he (n0 q1)
    obtain ⟨p, p64, y2, y3, y4, y5⟩ := hM.ch e he b2 q2
    exact ⟨p, p64, by rw [e2 e he]; exact y2, kp p p64 (kB_par hN hM he y2 p64 (n0 y3) b1), by rw [e4 p p64]; exact y4, by rw [e4 e he, e4 p p64, e3 e he]; exact y5⟩
  · intro e he q
    exact absurd q (n2 e he)
  · intro e f he hf q1 q2 q3 q4 q5
    rw [e2 e he] at q3
    rw [e2 e he, e2 f hf] at q4
    rw [e3 e he, e3 f hf] at q5
    exact hM.sb e f he hf (bk e he (n0 q1)).2.1 (bk f hf (n0 q2)).2.1 q3 q4 q5
  · intro e f he hf q1 q2 q3 q4
    rw [e4 e he] at q3
    rw [e4 e he, e4 f hf] at q4
    exact hM.nd e f he hf (n0 (bk e he q1).2.1) (n0 (bk f hf q2).2.1) q3 q4
  · intro e he q
    rw [e8 e he]
    exact i.Z.bi e he (n0 (bk e he q).2.1)
  · intro e he q
    rw [e6 e he]
    exact i.Z.co e he (n0 (bk e he q).2.1)
  · intro e he
    refine ⟨fun _ => rfl, (show (0 : Nat) ≤ 100 by decide), fun q => ⟨?_, fun w => absurd w (n2 e he)⟩⟩
    rw [hc00 V' he, Nat.add_zero]
    exact r5 e he
  · unfold CntI at C ⊢
    have e : cnt (fun v => decide (¬ V' 9 v = -1)) 1 2 = cnt (fun v => decide (¬ V 9 v = -1)) 1 2 := cnt_cong (fun v _ hv => by rw [e9 v (by omega)])
    rw [e]
    refine Nat.le_trans (cnt_mono (fun k _ hk q => ?_)) C
    simp only [decide_eq_true_eq] at q ⊢
    exact n0 (bk k (by omega) q).2.1
theorem Rel.bare {U : NodV} {V V' : MemV} {H : OneV} {W : WkV} {D D' : RowV} {n : Nat} (r : Rel none U V H W D n) (n60 : n ≤ 60) {room : Int32} (k0 : ∀ j, j = 12 ∨ j = 13 ∨ j = 14 → V' 0 j = V 0 j) (kl : V' 0 11 = room) (r1 : ∀ j, j < 64 → V' 1 j = if kB V j = true then V 1 j else 0) (row : ∀ q : Fin 12, q = 2 ∨ q = 3 ∨ q = 4 ∨ q = 6 ∨ q = 7 ∨ q = 8 → ∀ j, j < 64 → V' q j = V q j) (row9 : ∀ v, v < 3 → V' 9 v = V 9 v ∧ V' 10 v = V 10 v) (d0 : ∀ e, e < 128 → D' (701 + 9 * e + 0) = if e < 64 ∧ ¬ V 1 e = 0 ∧ kB V e = true then 1 else 0) (d3 : D' 3 = room) (dh : ∀ k, k < 6 → D' (11 + k) = -1) (dw : ∀ k, k < 4 → D' (17 + 96 * k + 0) = 0) (dk : ∀ j, (∀ e, e < 128 → j ≠ 701 + 9 * e + 0) → j ≠ 3 → (j < 11 ∨ 17 ≤ j) → (∀ k, k < 4 → j ≠ 17 + 96 * k + 0) → D' j = D j) : Rel none U V' H00 W00 D' n := by
  have b := r.B
  have o : ∀ j, (j < 11 ∧ j ≠ 3) ∨ (401 ≤ j ∧ j < 701) → D' j = D j := fun j h => dk j (fun e _ => by omega) (by omega) (by omega) (fun k _ => by omega)
  have oe : ∀ e f, e < 128 → 1 ≤ f → f < 9 → D' (701 + 9 * e + f) = D (701 + 9 * e + f) := fun e f he h1 h2 => dk _ (fun e' _ => by omega) (by omega) (by omega) (fun k _ => by omega)
  have cov : ∀ y, q_X1_coveringVolume V' y = q_X1_coveringVolume V y := fun y => by
    show oI (f_X1_coveringVolume V' y) = oI (f_X1_coveringVolume V y)
    congr 1
    exact fst_cong (fun v _ hv => by rw [(row9 v (by omega)).2])
  refine ⟨⟨?_, ?_, ?_, ?_, ?_, ?_, ?_, ?_, ?_, ?_, ?_⟩, fun k hk => ⟨?_, fun q => absurd rfl q, fun q => absurd rfl q, fun q => absurd rfl q⟩, fun k _ q => absurd rfl q, fun k q => by cases q⟩
  · rw [o 0 (by omega), k0 12 (by decide)]; exact b.tk
  · rw [o 1 (by omega), k0 13 (by decide)]; exact b.lo
  · rw [o 2 (by omega), k0 14 (by decide)]; exact b.tr
  · rw [d3, kl]
  · rw [o 4 (by omega)]; exact b.ev
  · intro v hv
    rw [o _ (by omega), (row9 v (by omega)).1]; exact b.rt v hv
  · intro v hv
    rw [o _ (by omega), (row9 v (by omega)).2]; exact b.ov v hv
  · intro k hk
    rw [dh k hk]; rfl
  · intro k hk
    rw [o _ (by omega), o _ (by omega), o _ (by omega), o _ (by omega), o _ (by omega)]
    exact b.nd k hk
  · intro e he
    rw [d0 e he]
    by_cases e64 : e < 64
    · rw [r1 e e64]
      by_cases z : kB V e = true
      · rw [if_pos z]
        by_cases w : V 1 e = 0
        · rw [if_neg (fun q => q.2.1 w), if_neg (fun q => q.2 w)]
        · rw [if_pos ⟨e64, w, z⟩, if_pos ⟨e64, w⟩]
      · rw [if_neg z, if_neg (fun q => z q.2.2), if_neg (fun q => q.2 rfl)]
    · rw [if_neg (fun q => e64 q.1), if_neg (fun q => e64 q.1)]
  · intro e he q
    rw [r1 e he] at q
    by_cases z : kB V e = true
    · rw [if_pos z] at q
      rw [oe e 1 (by omega) (by decide) (by decide), oe e 2 (by omega) (by decide) (by decide), oe e 3 (by omega) (by decide) (by decide), oe e 4 (by omega) (by decide) (by decide), oe e 5 (by omega) (by decide) (by decide), oe e 6 (by omega) (by decide) (by decide), oe e 7 (by omega) (by decide) (by decide), oe e 8 (by omega) (by decide) (by decide), row 2 (by decide) e he, row 3 (by decide) e he, row 4 (by decide) e he, row 6 (by decide) e he, row 7 (by decide) e he, row 8 (by decide) e he, cov, r1 e he, if_pos z]
      exact b.en e he q
    · rw [if_neg z] at q; exact absurd rfl q
  · rw [dw k hk]; rfl

/-! Mounts alone: the reference's loops. -/
theorem RefL.f30 {J : MJ} (h : RefL J) (I : MI) : fR (I, J) 10 188 30 = some (some 200) := by rw [fR_ok 30 h.k, h.r30]
def cf (Y : MI) (A D : RowV) : MI := fun a j => if a = 194 then D j else if a = 200 then A j else Y a j
theorem cf_D (Y : MI) (A D : RowV) : cf Y A D 194 = D := by
  funext j
  exact if_pos rfl
theorem cf_A (Y : MI) (A D : RowV) : cf Y A D 200 = A := by
  funext j
  unfold cf
  rw [if_neg (by decide), if_pos rfl]
theorem cf_o (Y : MI) (A D : RowV) {a : Nat} (h1 : a ≠ 194) (h2 : a ≠ 200) : cf Y A D a = Y a := by
  funext j
  unfold cf
  rw [if_neg h1, if_neg h2]
theorem cf_sD (Y : MI) (A D : RowV) (i : Nat) (v : Int32) : up2 (cf Y A D) 194 i v = cf Y A (sD D i v) := by
  funext a j
  unfold up2 cf sD
  by_cases h : a = 194
  · subst h
    simp
  · simp [h]
theorem cf_sA (Y : MI) (A D : RowV) (i : Nat) (v : Int32) : up2 (cf Y A D) 200 i v = cf Y (sD A i v) D := by
  funext a j
  unfold up2 cf sD
  by_cases h : a = 200
  · subst h
    simp
  · simp [h]
theorem cf_id (Y : MI) : cf Y (Y 200) (Y 194) = Y := by
  funext a j
  unfold cf
  by_cases h : a = 194
  · rw [if_pos h, h]
  · rw [if_neg h]
    by_cases h2 : a = 200
    · rw [if_pos h2, h2]
    · rw [if_neg h2]
/-- one that goes, at first -/
def goQ0 (D : RowV) (k : Nat) : Int32 := if D (701 + 9 * k + 0) = 1 ∧ ¬ rtB D (nI k) = true then 1 else 0
theorem clears1 {J : MJ} (h : RefL J) (Y : MI) (D : RowV) (x1 : Int32) (A : RowV) : Ev T_X10_clears 2 [some (mR (some 188)), some (mI x1), some (mI 0), none] [] (cf Y A D, J) = Ev T_X10_clears 46 [some (mR (some 188)), some (mI x1), some (mI 1), none] [] (cf Y (itr (fun k A => sD A (0 + k) (goQ0 D k)) 0 128 A) D, J) := by
  have nb1 : vp_nar .boolean 1 = 1 := rfl
  have nb0 : vp_nar .boolean 0 = 0 := rfl
  have s1 := loop_all (fun k A => Ev T_X10_clears 2 [some (mR (some 188)), some (mI x1), some (mI (nI k)), none] [] (cf Y A D, J)) (fun k A => sD A (0 + k) (goQ0 D k)) 128 A (fun k A hk => by
    try dsimp only
    rw [E_X10_clears_2, if_neg (show ¬ (128 : Int32) ≤ nI k from nI_ge (b := 128) hk (by decide))]
    simp only [h.f30, Option.bind_some, h.kt, if_true, w_its h _ 0 (show (0 : Int32) = nI 0 from rfl) hk (by decide), asI_I, cf_D, w_isRootB h, nb1, nb0, stx h.s30 hk (by decide) rfl, cf_sA, nI_1, Nat.zero_add]
    unfold goQ0
    by_cases a : D (701 + 9 * k + 0) = 1
    · rw [if_pos a]
      by_cases b : rtB D (nI k) = true
      · rw [if_pos b, if_neg i10, if_neg (fun z => z.2 b)]
      · rw [if_neg b, if_pos rfl, if_pos ⟨a, b⟩]
    · rw [if_neg a, if_neg (fun z => a z.1)])
  try dsimp only at s1
  rw [show (nI 0) = 0 from rfl] at s1
  rw [s1, E_X10_clears_2, if_pos (show (128 : Int32) ≤ nI 128 by decide)]
theorem clears_up {U : NodV} {V : MemV} {H : OneV} {W : WkV} {n vol : Nat} (hN : NodI U n vol) (hM : MemI U V n vol) {J : MJ} (h : RefL J) (Y : MI) {D : RowV} (r : Rel none U V H W D n) {d : Nat → Nat} (hd : ∀ k p, k < n → p < n → ¬ U 4 k = 0 → U 2 k = nI p → d p < d k) (x1 x2 : Int32) : ∀ (f g k : Nat) (A : RowV), At V g → V 4 g = nI k → k < n → rkc d n k < f → ∃ A', Ev T_X10_clears 80 [some (mR (some 188)), some (mI x1), some (mI x2), some (mI (nI g))] [] (cf Y A D, J) = Ev T_X10_clears 46 [some (mR (some 188)), some (mI x1), some (mI (x2 + 1)), none] [] (cf Y A' D, J) ∧ ∀ j, j < 128 → A' j = if mkB V f (nI g) j = true then 0 else A j := by
  have n60 := hN.n60
  have nb0 : vp_nar .boolean 0 = 0 := rfl
  intro f
  induction f with
  | zero => intro g k A _ _ _ hr; omega
  | succ f ih =>
    intro g k A hg g4 kn hr
    have g64 := hg.1
    have g0 : ¬ V 1 g = 0 := by rw [hg.2.1]; exact i10
    have mk : ∀ j, j < 128 → mkB V (f + 1) (nI g) j = if g = j then true else mkB V f (V 2 g) j := fun j hj => by
      rw [mkB_s, Inv.isE g64 g0, if_neg i10, ix_nI (by omega)]
      by_cases z : g = j
      · rw [if_pos z, if_pos (by rw [z])]
      · rw [if_neg z, if_neg (fun w => z ((nI_eq (by omega) (by omega)).mp w))]
    have st : Ev T_X10_clears 80 [some (mR (some 188)), some (mI x1), some (mI x2), some (mI (nI g))] [] (cf Y A D, J) = Ev T_X10_clears 80 [some (mR (some 188)), some (mI x1), some (mI x2), some (mI (V 2 g))] [] (cf Y (sD A g 0) D, J) := by
      rw [E_X10_clears_80, if_neg (nI_m1 (show g < 2 ^ 31 by omega))]
      simp only [h.f30, Option.bind_some, nb0, stx h.s30 (show g < 128 by omega) (by decide) rfl, cf_sA, h.kt, if_true, w_its h _ 1 (show (1 : Int32) = nI 1 from rfl) (show g < 128 by omega) (by decide), asI_I, cf_D, (r.B.en g g64 g0).1]
    rw [st]
    by_cases w : V 2 g = -1
    · refine ⟨sD A g 0, ?_, fun j hj => ?_⟩
      · rw [w, E_X10_clears_80, if_pos rfl]
      · rw [mk j hj, w, mk_m1]
        by_cases z : g = j
        · rw [if_pos z, if_pos rfl, z, sD_s]
        · rw [if_neg z, if_neg (by decide), sD_n _ _ (fun q => z q.symm)]
    · obtain ⟨p, kp, p64, p2, p1, kpn, kp4, u2, _, u4, _⟩ := hM.up hN g64 hg.2.1 w g4 kn
      have := rkc_lt (n := n) kpn (hd k kp kn kpn u4 u2)
      obtain ⟨A', a1, a2⟩ := ih p kp (sD A g 0) ⟨p64, p1, by rw [kp4]; exact nI_m1 (by omega)⟩ kp4 kpn (by omega)
      refine ⟨A', by rw [p2]; exact a1, fun j hj => ?_⟩
      rw [a2 j hj, mk j hj, p2]
      by_cases z : g = j
      · rw [if_pos z, if_pos rfl, z, sD_s]
        split <;> rfl
      · rw [if_neg z, sD_n _ _ (fun q => z q.symm)]
def anB (V : MemV) : Nat → Nat → Nat → Bool
  | _, 0, _ => false
  | k, n + 1, j => mkB V 64 (V 10 k) j || anB V (k + 1) n j
theorem anB_iff (V : MemV) (j : Nat) : ∀ n k, anB V k n j = true ↔ ∃ v, k ≤ v ∧ v < k + n ∧ mkB V 64 (V 10 v) j = true
  | 0, k => by
    constructor
    · intro h
      cases h
    · rintro ⟨v, a, b, _⟩
      omega
  | n + 1, k => by
    show (mkB V 64 (V 10 k) j || anB V (k + 1) n j) = true ↔ _
    rw [Bool.or_eq_true, anB_iff V j n (k + 1)]
    constructor
    · rintro (a | ⟨v, b, c, e⟩)
      · exact ⟨k, Nat.le_refl _, by omega, a⟩
      · exact ⟨v, by omega, by omega, e⟩
    · rintro ⟨v, b, c, e⟩
      by_cases z : v = k
      · rw [z] at e; exact Or.inl e
      · exact Or.inr ⟨v, by omega, by omega, e⟩
theorem clears2 {U : NodV} {V : MemV} {H : OneV} {W : WkV} {n vol : Nat} (hN : NodI U n vol) (hM : MemI U V n vol) {J : MJ} (h : RefL J) (Y : MI) {D : RowV} (r : Rel none U V H W D n) (y11 : Y 188 11 = nI vol) (x1 : Int32) : ∀ (nn v : Nat) (A : RowV), v + nn = vol → 1 ≤ v → ∃ A', Ev T_X10_clears 46 [some (mR (some 188)), some (mI x1), some (mI (nI v)), none] [] (cf Y A D, J) = Ev T_X10_clears 110 [some (mR (some 188)), some (mI x1), some (mI 0), none] [] (cf Y A' D, J) ∧ ∀ j, j < 128 → A' j = if anB V v nn j = true then 0 else A j := by
  have n60 := hN.n60
  have v3 := hN.v3
  have c11 : ∀ A, cf Y A D 188 11 = nI vol := fun A => by rw [cf_o _ _ _ (by decide) (by decide)]; exact y11
  obtain ⟨d, hd⟩ := hN.rk
  intro nn
  induction nn with
  | zero =>
    intro v A hv v1
    refine ⟨A, ?_, fun j _ => by rw [if_neg (show ¬ anB V v 0 j = true from fun q => by cases q)]⟩
    rw [E_X10_clears_46]
    simp only [h.fi, c11, Option.bind_some, if_pos (nI_le (show vol ≤ v by omega) (by omega))]
  | succ nn ih =>
    intro v A hv v1
    have an : ∀ j, anB V v (nn + 1) j = (mkB V 64 (V 10 v) j || anB V (v + 1) nn j) := fun _ => rfl
    have e5 : (5 : Int32) + nI v = nI (5 + v) := nI_add 5 v
    have e8 : (8 : Int32) + nI v = nI (8 + v) := nI_add 8 v
    obtain ⟨b1, b2⟩ := hM.bg hN (show v < 3 by omega)
    have st : Ev T_X10_clears 46 [some (mR (some 188)), some (mI x1), some (mI (nI v)), none] [] (cf Y A D, J) = if V 9 v = -1 then Ev T_X10_clears 80 [some (mR (some 188)), some (mI x1), some (mI (nI v)), some (mI (-1))] [] (cf Y A D, J) else Ev T_X10_clears 80 [some (mR (some 188)), some (mI x1), some (mI (nI v)), some (mI (V 10 v))] [] (cf Y A D, J) := by
      rw [E_X10_clears_46]
      simp only [h.fi, c11, Option.bind_some, if_neg (nI_ge (show v < vol by omega) (by omega)), h.f18, h.ldD _ e5 (show 5 + v < 1853 by omega), h.ldD _ e8 (show 8 + v < 1853 by omega), cf_D, r.B.rt v (by omega), r.B.ov v (by omega)]
    have dead : Ev T_X10_clears 80 [some (mR (some 188)), some (mI x1), some (mI (nI v)), some (mI (-1))] [] (cf Y A D, J) = Ev T_X10_clears 46 [some (mR (some 188)), some (mI x1), some (mI (nI (v + 1))), none] [] (cf Y A D, J) := by
      rw [E_X10_clears_80, if_pos rfl, nI_1]
    rcases b2 with z | ⟨g, z, ga, _, _⟩
    · obtain ⟨A', a1, a2⟩ := ih (v + 1) A (by omega) (by omega)
      refine ⟨A', ?_, fun j hj => ?_⟩
      · rw [st, z, ite_self, dead, a1]
      · rw [a2 j hj, an, z, mk_m1, Bool.false_or]
    · obtain ⟨k, kn, ke, _⟩ := hM.nk hN ga
      have rk := rkc_le d n k
      obtain ⟨A1, c1, c2⟩ := clears_up hN hM h Y r hd x1 (nI v) 64 g k A ga ke kn (by omega)
      obtain ⟨A', a1, a2⟩ := ih (v + 1) A1 (by omega) (by omega)
      have m9 : ¬ V 9 v = -1 := (hM.ok (show v < 3 by omega) ga.1 z).2.1
      refine ⟨A', ?_, fun j hj => ?_⟩
      · rw [st, if_neg m9, z, c1, nI_1, a1]
      · rw [a2 j hj, c2 j hj, an, z]
        by_cases x : mkB V 64 (nI g) j = true
        · rw [if_pos x, x, Bool.true_or, if_pos rfl]
          split <;> rfl
        · have x' : mkB V 64 (nI g) j = false := by simpa using x
          rw [if_neg x, x', Bool.false_or]
def clD (A : RowV) (k : Nat) (D : RowV) : RowV := if A k = 0 then D else sD D (701 + 9 * k + 0) 0
theorem clD_q (A : RowV) : ∀ (nn k : Nat) (D : RowV), (∀ j, (∀ e, k ≤ e → e < k + nn → j ≠ 701 + 9 * e + 0) → itr (clD A) k nn D j = D j) ∧ ∀ e, k ≤ e → e < k + nn → itr (clD A) k nn D (701 + 9 * e + 0) = if A e = 0 then D (701 + 9 * e + 0) else 0
  | 0, k, D => ⟨fun j _ => rfl, fun e a b => by omega⟩
  | nn + 1, k, D => by
    have e1 : itr (clD A) k (nn + 1) D = itr (clD A) (k + 1) nn (clD A k D) := rfl
    obtain ⟨g1, g2⟩ := clD_q A nn (k + 1) (clD A k D)
    have u : ∀ j, j ≠ 701 + 9 * k + 0 → clD A k D j = D j := fun j hj => by
      unfold clD
      split
      · rfl
      · exact sD_n _ _ hj
    have u1 : clD A k D (701 + 9 * k + 0) = if A k = 0 then D (701 + 9 * k + 0) else 0 := by
      unfold clD
      split
      · rfl
      · exact sD_s _ _ _
    refine ⟨fun j hj => by rw [e1, g1 j (fun e a b => hj e (by omega) (by omega)), u j (hj k (Nat.le_refl _) (by omega))], fun e a b => ?_⟩
    by_cases z : e = k
    · subst z
      rw [e1, g1 _ (fun e' a' _ => by omega), u1]
    · rw [e1, g2 e (by omega) (by omega), u _ (by omega)]
theorem w_clears {U : NodV} {V : MemV} {H : OneV} {W : WkV} {n vol : Nat} (hN : NodI U n vol) (hM : MemI U V n vol) {J : MJ} (h : RefL J) (Y : MI) (r : Rel none U V H W (Y 194) n) (y11 : Y 188 11 = nI vol) (room : Int32) : ∃ A' D', M_X10_clears [mR (some 188), mI room] (Y, J) = some (none, (cf Y A' D', J)) ∧ (∀ e, e < 128 → D' (701 + 9 * e + 0) = if e < 64 ∧ ¬ V 1 e = 0 ∧ kB V e = true then 1 else 0) ∧ D' 3 = room ∧ (∀ k, k < 6 → D' (11 + k) = -1) ∧ (∀ k, k < 4 → D' (17 + 96 * k + 0) = 0) ∧ ∀ j, (∀ e, e < 128 → j ≠ 701 + 9 * e + 0) → j ≠ 3 → (j < 11 ∨ 17 ≤ j) → (∀ k, k < 4 → j ≠ 17 + 96 * k + 0) → D' j = Y 194 j := by
  have v3 := hN.v3
  have s1 := clears1 h Y (Y 194) room (Y 200)
  rw [cf_id] at s1
  have a1 : ∀ j, j < 128 → itr (fun k A => sD A (0 + k) (goQ0 (Y 194) k)) 0 128 (Y 200) j = goQ0 (Y 194) j := fun j hj => by
    rw [itr_sD 0 (goQ0 (Y 194)), if_pos (by omega)]
    rfl
  generalize itr (fun k A => sD A (0 + k) (goQ0 (Y 194) k)) 0 128 (Y 200) = A1 at s1 a1
  obtain ⟨A2, s2, a2⟩ := clears2 hN hM h Y r y11 room (vol - 1) 1 A1 (by omega) (by omega)
  rw [show (nI 1) = 1 from rfl] at s2
  have s3 := loop_all (fun k D => Ev T_X10_clears 110 [some (mR (some 188)), some (mI room), some (mI (nI k)), none] [] (cf Y A2 D, J)) (clD A2) 128 (Y 194) (fun k D hk => by
    try dsimp only
    rw [E_X10_clears_110, if_neg (show ¬ (128 : Int32) ≤ nI k from nI_ge (b := 128) hk (by decide))]
    simp only [h.f30, Option.bind_some, ldx h.s30 hk (by decide) rfl, cf_A, h.f18, w_entryAt _ k 0 (show (0 : Int32) = nI 0 from rfl), asI_I, h.stD _ _ (show nI (701 + 9 * k + 0) = nI (701 + 9 * k + 0) from rfl) (show 701 + 9 * k + 0 < 1853 by omega), cf_sD, nI_1]
    unfold clD
    by_cases z : A2 k = 0
    · rw [if_pos z, if_pos z]
    · rw [if_neg z, if_neg z])
  try dsimp only at s3
  rw [show (nI 0) = 0 from rfl] at s3
  obtain ⟨c1, c2⟩ := clD_q A2 128 0 (Y 194)
  generalize itr (clD A2) 0 128 (Y 194) = D3 at s3 c1 c2
  have s4 := loop_all (fun k D => Ev T_X10_clears 145 [some (mR (some 188)), some (mI room), some (mI (nI k)), none] [] (cf Y A2 D, J)) (fun k D => sD D (11 + k) ((fun _ => (-1 : Int32)) k)) 6 D3 (fun k D hk => by
    try dsimp only
    rw [E_X10_clears_145, if_neg (show ¬ (6 : Int32) ≤ nI k from nI_ge (b := 6) hk (by decide))]
    have e11 : (11 : Int32) + nI k = nI (11 + k) := nI_add 11 k
    simp only [Option.bind_some, h.f18, h.stD _ _ e11 (show 11 + k < 1853 by omega), cf_sD, nI_1])
  try dsimp only at s4
  rw [show (nI 0) = 0 from rfl] at s4
  have d4 := fun j => itr_sD 11 (fun _ => (-1 : Int32)) 6 0 D3 j
  generalize itr (fun k D => sD D (11 + k) (-1)) 0 6 D3 = D4 at s4 d4
  refine ⟨A2, sD (sD (sD (sD (sD D4 17 0) 113 0) 209 0) 305 0) 3 room, ?_, fun e he => ?_, sD_s _ _ _, fun k hk => ?_, fun k hk => ?_, fun j h1 h2 h3 h4 => ?_⟩
  · rw [E_X10_clears, s1, s2, s3, E_X10_clears_110, if_pos (show (128 : Int32) ≤ nI 128 by decide), s4, E_X10_clears_145, if_pos (show (6 : Int32) ≤ nI 6 by decide)]
    have wk : ∀ (D : RowV) (k : Nat), k < 4 → Ev T_X10_clears 169 [some (mR (some 188)), some (mI room), some (mI (nI k)), none] [] (cf Y A2 D, J) = Ev T_X10_clears 169 [some (mR (some 188)), some (mI room), some (mI (nI (k + 1))), none] [] (cf Y A2 (sD D (17 + 96 * k + 0) 0), J) := fun D k hk => by
      rw [E_X10_clears_169, if_neg (show ¬ (4 : Int32) ≤ nI k from nI_ge (b := 4) hk (by decide))]
      simp only [Option.bind_some, h.f18, w_walkerAt _ k 0 (show (0 : Int32) = nI 0 from rfl), asI_I, h.stD _ _ (show nI (17 + 96 * k + 0) = nI (17 + 96 * k + 0) from rfl) (show 17 + 96 * k + 0 < 1853 by omega), cf_sD, nI_1]
    have w0 := wk D4 0 (by decide)
    rw [show (nI 0) = 0 from rfl] at w0
    rw [w0, wk _ 1 (by decide), wk _ 2 (by decide), wk _ 3 (by decide), E_X10_clears_169, if_pos (show (4 : Int32) ≤ nI (3 + 1) by decide)]
    simp only [Option.bind_some, h.f18, h.stD _ _ (show (3 : Int32) = nI 3 from rfl) (show 3 < 1853 by decide), cf_sD]
  · rw [sD_n _ _ (by omega), sD_n _ _ (by omega), sD_n _ _ (by omega), sD_n _ _ (by omega), sD_n _ _ (by omega), d4, if_neg (by omega), c2 e (by omega) (by omega), a2 e he, a1 e he, r.B.th e he]
    by_cases e64 : e < 64
    · by_cases w : V 1 e = 0
      · rw [if_neg (show ¬ (e < 64 ∧ ¬ V 1 e = 0) from fun q => q.2 w), if_neg (show ¬ (e < 64 ∧ ¬ V 1 e = 0 ∧ kB V e = true) from fun q => q.2.1 w), ite_self]
      · rw [if_pos (show e < 64 ∧ ¬ V 1 e = 0 from ⟨e64, w⟩)]
        have iff : (rtB (Y 194) (nI e) = true ∨ anB V 1 (vol - 1) e = true) ↔ kB V e = true := by
          rw [kB_iff, r.eqr, anB_iff]
          constructor
          · rintro (⟨v, hv, q⟩ | ⟨v, a, b, q⟩)
            · refine ⟨v, hv, Or.inl ?_⟩
              rw [q]
              exact mk_self e64 w 63
            · exact ⟨v, by omega, Or.inr q⟩
          · rintro ⟨v, hv, q⟩
            obtain ⟨b1, b2⟩ := hM.bg hN hv
            rcases q with q | q
            · rcases b1 with z | ⟨g, z, ga, g2⟩
              · rw [z, mk_m1] at q; cases q
              · rw [z, mkB_s, ix_nI (by have := ga.1; omega), g2, mk_m1] at q
                refine Or.inl ⟨v, hv, ?_⟩
                by_cases x : nI g = nI e
                · rw [z, x]
                · rw [if_neg x, ite_self] at q; cases q
            · rcases b2 with z | ⟨g, z, ga, g1, g2⟩
              · rw [z, mk_m1] at q; cases q
              · exact Or.inr ⟨v, g1, by omega, q⟩
        have g0 : goQ0 (Y 194) e = if rtB (Y 194) (nI e) = true then 0 else 1 := by
          unfold goQ0
          rw [r.B.th e he, if_pos (show e < 64 ∧ ¬ V 1 e = 0 from ⟨e64, w⟩)]
          by_cases x : rtB (Y 194) (nI e) = true
          · rw [if_pos x, if_neg (fun q => q.2 x)]
          · rw [if_neg x, if_pos ⟨rfl, x⟩]
        rw [g0]
        by_cases x : anB V 1 (vol - 1) e = true
        · rw [if_pos x, if_pos rfl, if_pos ⟨e64, w, iff.mp (Or.inr x)⟩]
        · rw [if_neg x]
          by_cases y : rtB (Y 194) (nI e) = true
          · rw [if_pos y, if_pos rfl, if_pos ⟨e64, w, iff.mp (Or.inl y)⟩]
          · rw [if_neg y, if_neg i10, if_neg (fun q => (iff.mpr q.2.2).elim y x)]
    · rw [if_neg (show ¬ (e < 64 ∧ ¬ V 1 e = 0) from fun q => e64 q.1), if_neg (show ¬ (e < 64 ∧ ¬ V 1 e = 0 ∧ kB V e = true) from fun q => e64 q.1), ite_self]
  · rw [sD_n _ _ (by omega), sD_n _ _ (by omega), sD_n _ _ (by omega), sD_n _ _ (by omega), sD_n _ _ (by omega), d4, if_pos (by omega)]
  · rw [sD_n _ _ (by omega)]
    rcases (show k = 0 ∨ k = 1 ∨ k = 2 ∨ k = 3 by omega) with z | z | z | z
    · subst z
      rw [sD_n _ _ (by decide), sD_n _ _ (by decide), sD_n _ _ (by decide)]
      exact sD_s _ _ _
    · subst z
      rw [sD_n _ _ (by decide), sD_n _ _ (by decide)]
      exact sD_s _ _ _
    · subst z
      rw [sD_n _ _ (by decide)]
      exact sD_s _ _ _
    · subst z
      exact sD_s _ _ _
  · have h40 := h4 0 (by decide)
    have h41 := h4 1 (by decide)
    have h42 := h4 2 (by decide)
    have h43 := h4 3 (by decide)
    rw [sD_n _ _ h2, sD_n _ _ (by omega), sD_n _ _ (by omega), sD_n _ _ (by omega), sD_n _ _ (by omega), d4, if_neg (by omega), c1 j (fun e _ b => h1 e (by omega))]

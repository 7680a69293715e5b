section
/-! TREES read, on both sides. -/
def fF (Y : MI) : MI := up2 (up2 Y 188 6 (Y 188 4)) 188 7 (Y 188 5)
noncomputable def T55 (s : MH) : Option MO := Ev T_X10_trees 55 [some (mR (some 188))] [] s
/-- how the reference goes on where nothing was wrong -/
noncomputable def Stnd (s : MH) : Option MO := (M_X10_stands [mR (some 188)] s).bind fun u9 => (asV u9.1).bind fun _ => (fI u9.2 10 188 11).bind fun v10 => some (some (mI v10), u9.2)
theorem T55_bad {J : MJ} (h : RefL J) (I : MI) (p b g m v : Int32) (S : RowV) (hb : ¬ b = 0) : T55 (vF I p b g m v S, J) = some (some (mI (-1)), (rfR (fF (vF I p b g m v S)) 1, J)) := by
  unfold T55
  rw [E_X10_trees_55]
  have k4 : ∀ (Y : MI) (x y : Int32), up2 (up2 Y 188 6 x) 188 7 y 188 4 = Y 188 4 := fun Y x y => by simp [up2]
  have k5 : ∀ (Y : MI) (x : Int32), up2 Y 188 6 x 188 5 = Y 188 5 := fun Y x => by simp [up2]
  simp only [h.fi, vF_4, Option.bind_some, if_neg hb, h.wi, k4, k5, h.kt, if_true, w_refuses h _ (show (1 : Int32) = nI 1 from rfl) (by decide), asI_I]
  unfold fF
  rw [vF_4]
theorem T55_end {I : MI} {Q : RouV} {T : Nat} (t : RTap I Q T) {J : MJ} (h : RefL J) (g m v : Int32) (S : RowV) {p s : Nat} (hs : Sk Q T p s) (hc : q_X5_at Q (nI s) = -1) : T55 (vF I (nI p) 0 g m v S, J) = Stnd (fF (vF I (nI s) 0 g m v S), J) := by
  unfold T55 Stnd
  rw [E_X10_trees_55]
  have k4 : ∀ (Y : MI) (x y : Int32), up2 (up2 Y 188 6 x) 188 7 y 188 4 = Y 188 4 := fun Y x y => by simp [up2]
  have k5 : ∀ (Y : MI) (x : Int32), up2 Y 188 6 x 188 5 = Y 188 5 := fun Y x => by simp [up2]
  simp only [h.fi, vF_4, Option.bind_some, if_true, h.kt, w_look0 t h 0 g m v S hs, asI_I, hc, h.wi, k4, k5]
  unfold fF
  rw [vF_4]
/-- a VOLUME begins -/
theorem T55_vol {I : MI} {Q : RouV} {T : Nat} (t : RTap I Q T) {J : MJ} (h : RefL J) (g m : Int32) (S : RowV) {p s v : Nat} (hs : Sk Q T p s) (hc : ¬ q_X5_at Q (nI s) = -1) (v3 : v < 3) : T55 (vF I (nI p) 0 g m (nI v) S, J) = (M_X10_volumeTold [mR (some 188), mI (nI s)] (vF I (nI s) 0 g m (nI v) S, J)).bind fun u19 => (asV u19.1).bind fun _ => T55 u19.2 := by
  unfold T55
  rw [E_X10_trees_55]
  simp only [h.fi, vF_4, vF_12, vF_2, Option.bind_some, if_true, h.kt, w_look0 t h 0 g m (nI v) S hs, asI_I, if_neg hc, if_neg (show ¬ nI v = 3 from fun z => absurd ((nI_eq (a := v) (b := 3) (by omega) (by decide)).mp z) (by omega))]
theorem T55_vol3 {I : MI} {Q : RouV} {T : Nat} (t : RTap I Q T) {J : MJ} (h : RefL J) (g m : Int32) (S : RowV) {p s : Nat} (hs : Sk Q T p s) (hc : ¬ q_X5_at Q (nI s) = -1) : ∃ Y : MI, (Y = vF I (nI s) 5 (nI s) m (nI 3) S) ∧ T55 (vF I (nI p) 0 g m (nI 3) S, J) = some (some (mI (-1)), (rfR (fF Y) 1, J)) := by
  refine ⟨_, rfl, ?_⟩
  have bad := T55_bad h I (nI s) 5 (nI s) m (nI 3) S (by decide)
  have v13 := V13_bad h I (nI s) 5 (nI s) m (nI 3) S (by decide) (-1) 0 (-1)
  unfold V13 at v13
  unfold T55 at bad ⊢
  rw [E_X10_trees_55]
  simp only [h.fi, vF_4, vF_12, vF_2, Option.bind_some, if_true, h.kt, w_look0 t h 0 g m (nI 3) S hs, asI_I, if_neg hc, if_pos (show nI 3 = 3 from rfl), w_fail0 h, asV_n, E_X10_volumeTold, w_drafts_bad h I _ 5 _ _ _ _ (show ¬ (5 : Int32) = 0 by decide), v13]
  exact bad
theorem vol_root {J : MJ} (h : RefL J) (I : MI) (p g v : Int32) (S : RowV) {n : Nat} (n40 : n < 40) (x : Int32) : M_X10_volumeTold [mR (some 188), mI x] (vF I p 0 g (nI n) v S, J) = V13 (nI n) (nI 0) (-1) (vF I p 0 g (nI (n + 1)) v (dS S n v 1 (-1) 0), J) := by
  unfold V13
  rw [E_X10_volumeTold]
  simp only [h.kt, if_true, w_drafts_root h I p g v S n40 x, Option.bind_some, asI_I]
  rfl
theorem vol_full {J : MJ} (h : RefL J) (I : MI) (p g v : Int32) (S : RowV) (x : Int32) : M_X10_volumeTold [mR (some 188), mI x] (vF I p 0 g (nI 40) v S, J) = some (none, (vF I p 5 x (nI 40) v S, J)) := by
  have v13 := V13_bad h I p 5 x (nI 40) v S (by decide) (-1) 0 (-1)
  unfold V13 at v13
  rw [E_X10_volumeTold]
  simp only [h.kt, if_true, w_drafts_full h I p g v S, Option.bind_some, asI_I, v13]
/-- how TREES end -/
def Fin55 (I : MI) (J : MJ) (L : Int32 × OneV × NodV) (R : Option MO) : Prop := (∃ p b g m v S, R = some (some (mI (-1)), (rfR (fF (vF I p b g m v S)) 1, J)) ∧ L.1 = 0) ∨ ∃ p g N V S, R = Stnd (fF (vF I p 0 g (nI N) (nI V) S), J) ∧ L.1 = 1 ∧ 1 ≤ V ∧ DI L.2.2 S N V
theorem out_fail {E : OneV} {U : NodV} {c : Int32} {n v : Nat} (hn : U 0 5 = nI n) (hv : U 0 6 = nI v) (n4 : n ≤ 40) (hv3 : v ≤ 3) (hc : ¬ c = -1) (h : v = 3 ∨ (¬ c = 59 ∧ q_X9_isLetter c = 0) ∨ n = 40) : ∃ x, ¬ x = 0 ∧ q_X3_readOutside E U c = 0 ∧ gE_X3_readOutside E U c = gE_X3_fail E x (E 0 3) := by
  unfold q_X3_readOutside gE_X3_readOutside
  simp only [if_neg hc, hn, hv]
  by_cases z : v = 3
  · subst z
    simp only [if_neg (show ¬ nI 3 < 3 by decide)]
    exact ⟨5, by decide, rfl, rfl⟩
  · simp only [if_pos (show nI v < 3 from nI_lt (b := 3) (by omega) (by decide))]
    by_cases c59 : c = 59
    · have n40 : n = 40 := by
        rcases h with y | y | y
        · exact absurd y z
        · exact absurd c59 y.1
        · exact y
      subst n40
      simp only [if_pos c59, if_pos (show (40 : Int32) ≤ nI 40 by decide)]
      exact ⟨5, by decide, rfl, rfl⟩
    · simp only [if_neg c59]
      by_cases l : q_X9_isLetter c = 0
      · simp only [if_pos l]
        exact ⟨1, by decide, rfl, rfl⟩
      · have n40 : n = 40 := by
          rcases h with y | y | y
          · exact absurd y z
          · exact absurd y.2 l
          · exact y
        subst n40
        simp only [if_neg l, if_pos (show (40 : Int32) ≤ nI 40 by decide)]
        exact ⟨5, by decide, rfl, rfl⟩
theorem out_vol {E : OneV} {U : NodV} {S : RowV} {c : Int32} {n v : Nat} (hD : DI U S n v) (n4 : n < 40) (hv3 : v < 3) (hc : ¬ c = -1) (h : c = 59 ∨ q_X9_isLetter c = 1) : q_X3_readOutside E U c = 1 ∧ gE_X3_readOutside E U c = uv (uv E 0 5 (nI n)) 0 6 1 ∧ gU_X3_readOutside E U c = gU_X2_addVolume U := by
  obtain ⟨a1, _, a3, _, _⟩ := hD.vol n4 hv3
  have b5 := hD.1.1
  have b6 := hD.1.2.2.1
  unfold q_X3_readOutside gE_X3_readOutside gU_X3_readOutside
  simp only [if_neg hc, b5, b6, a1, a3, if_neg i10, if_pos (show nI v < 3 from nI_lt (b := 3) hv3 (by decide)), if_neg (show ¬ (40 : Int32) ≤ nI n from nI_ge (b := 40) n4 (by decide))]
  by_cases c59 : c = 59
  · simp only [if_pos c59]
    exact ⟨trivial, trivial, trivial⟩
  · have l := h.resolve_left c59
    simp only [if_neg c59, l, if_neg i10]
    exact ⟨trivial, trivial, trivial⟩
theorem trees_out {I : MI} {Q : RouV} {T : Nat} (t : RTap I Q T) {J : MJ} (h : RefL J) : ∀ (r p : Nat), T - p ≤ r → p ≤ T → ∀ (nn k : Nat) (E : OneV) (U : NodV) (S : RowV) (n v : Nat) (g : Int32), 2 * (T - p) + 1 ≤ nn → EO E p → DI U S n v → (1 ≤ v ∨ ∃ s, Sk Q T p s ∧ s < T) → Fin55 I J (RTl Q nn k 1 E U) (T55 (vF I (nI p) 0 g (nI n) (nI v) S, J)) := by
  have T4 := t.1.1
  intro r
  induction r with
  | zero =>
    intro p hr hp nn k E U S n v g hnn hE hD hx
    obtain ⟨nn, rfl⟩ : ∃ q, nn = q + 1 := ⟨nn - 1, by omega⟩
    obtain ⟨e1, e3, e4, e6⟩ := hE
    have pT : p = T := by omega
    have hs : Sk Q T p p := ⟨Nat.le_refl _, hp, fun k a b => by omega, Or.inl pT⟩
    have c : q_X5_at Q (nI p) = -1 := t.1.out (by omega) (by omega)
    have v1 : 1 ≤ v := by
      rcases hx with y | ⟨s, y, z⟩
      · exact y
      · have := y.1; omega
    have b6 := hD.1.2.2.1
    have b3 := hD.1.2.2.2
    have v0 : ¬ U 0 6 = 0 := by rw [b6]; exact fun z => absurd ((nI_eq (b := 0) (by omega) (by decide)).mp z) (by omega)
    refine Or.inr ⟨nI p, g, n, v, S, T55_end t h g (nI n) (nI v) S hs c, ?_⟩
    have q1 : q_X3_readOutside (uv E 0 3 (nI p)) U (-1) = 0 := by
      unfold q_X3_readOutside
      rw [if_pos rfl, if_neg v0]
    have q2 : gE_X3_readOutside (uv E 0 3 (nI p)) U (-1) = uv E 0 3 (nI p) := by
      unfold gE_X3_readOutside
      rw [if_pos rfl, if_neg v0]
    have q3 : gU_X3_readOutside (uv E 0 3 (nI p)) U (-1) = U := by
      unfold gU_X3_readOutside
      rw [if_pos rfl, if_neg v0]
    rw [lp_out t.1 hs nn k E U e3 e6, c, q1, q2, q3, lp_0, uv_n _ _ _ _ _ _ (by decide), if_pos e1]
    exact ⟨rfl, v1, hD⟩
  | succ r ih =>
    intro p hr hp nn k E U S n v g hnn hE hD hx
    obtain ⟨nn, rfl⟩ : ∃ q, nn = q + 1 := ⟨nn - 1, by omega⟩
    obtain ⟨e1, e3, e4, e6⟩ := hE
    obtain ⟨s, hs⟩ := Sk.ex Q hp
    have s1 := hs.1
    have s2 := hs.2.1
    have lp := lp_out t.1 hs nn k E U e3 e6
    have b5 := hD.1.1
    have b6 := hD.1.2.2.1
    have b3 := hD.1.2.2.2
    have n4 := hD.1.2.1
    by_cases sT : s = T
    · have c : q_X5_at Q (nI s) = -1 := t.1.out (by omega) (by omega)
      have v1 : 1 ≤ v := by
        rcases hx with y | ⟨s', y, z⟩
        · exact y
        · rcases Nat.lt_or_ge s' s with w | w
          · exact absurd (hs.2.2.1 s' y.1 w) (y.2.2.2.resolve_left (by omega))
          · omega
      have v0 : ¬ U 0 6 = 0 := by rw [b6]; exact fun z => absurd ((nI_eq (b := 0) (by omega) (by decide)).mp z) (by omega)
      refine Or.inr ⟨nI s, g, n, v, S, T55_end t h g (nI n) (nI v) S hs c, ?_⟩
      have q1 : q_X3_readOutside (uv E 0 3 (nI s)) U (-1) = 0 := by
        unfold q_X3_readOutside
        rw [if_pos rfl, if_neg v0]
      have q2 : gE_X3_readOutside (uv E 0 3 (nI s)) U (-1) = uv E 0 3 (nI s) := by
        unfold gE_X3_readOutside
        rw [if_pos rfl, if_neg v0]
      have q3 : gU_X3_readOutside (uv E 0 3 (nI s)) U (-1) = U := by
        unfold gU_X3_readOutside
        rw [if_pos rfl, if_neg v0]
      rw [lp, c, q1, q2, q3, lp_0, uv_n _ _ _ _ _ _ (by decide), if_pos e1]
      exact ⟨rfl, v1, hD⟩
    · clear hx
      have lt : s < T := by omega
      have cin : q_X5_at Q (nI s) = Q 1 s := t.1.in lt
      have hc : ¬ q_X5_at Q (nI s) = -1 := by
        obtain ⟨b, b1, b2⟩ := t.1.2.2 s lt
        rw [cin, b2]
        exact nI_m1 (by omega)
      have fl : (v = 3 ∨ (¬ q_X5_at Q (nI s) = 59 ∧ q_X9_isLetter (q_X5_at Q (nI s)) = 0) ∨ n = 40) → (RTl Q (nn + 1) k 1 E U).1 = 0 := fun z => by
        obtain ⟨x, x0, q1, q2⟩ := out_fail (E := uv E 0 3 (nI s)) b5 b6 n4 b3 hc z
        rw [lp, q1, q2]
        exact lp_fail _ _ _ _ _ _ _ x0
      by_cases v3 : v = 3
      · subst v3
        obtain ⟨Y, rfl, z⟩ := T55_vol3 t h g (nI n) S hs hc
        exact Or.inl ⟨_, _, _, _, _, _, z, fl (Or.inl rfl)⟩
      · have v3' : v < 3 := by omega
        have st := T55_vol t h g (nI n) S hs hc v3'
        by_cases n40 : n = 40
        · subst n40
          rw [vol_full h] at st
          simp only [Option.bind_some, asV_n] at st
          rw [T55_bad h I _ 5 _ _ _ _ (by decide)] at st
          exact Or.inl ⟨_, _, _, _, _, _, st, fl (Or.inr (Or.inr rfl))⟩
        · have n40' : n < 40 := by omega
          rw [vol_root h I _ g (nI v) S n40'] at st
          obtain ⟨_, vD, _, v4, v5⟩ := hD.vol n40' v3'
          by_cases ok : q_X5_at Q (nI s) = 59 ∨ q_X9_isLetter (q_X5_at Q (nI s)) = 1
          · obtain ⟨q1, q2, q3⟩ := out_vol (E := uv E 0 3 (nI s)) hD n40' v3' hc ok
            rw [q1, q2, q3] at lp
            have := vol_in t h (T - s) s (Nat.le_refl _) s2 nn (k + 1) (uv (uv (uv E 0 3 (nI s)) 0 5 (nI n)) 0 6 1) (gU_X2_addVolume U) (dS S n (nI v) 1 (-1) 0) (n + 1) v 0 n s g (-1) (by omega) (by omega) ⟨by simp [uv]; exact e1, by simp [uv], by simp [uv]; exact e4, by simp [uv], by simp [uv, bz]⟩ vD (by omega) v4 v5 trivial (by omega) (Nat.le_refl _) (fun k a b => by omega) (Or.inl rfl)
            obtain ⟨p', b, g', n', v', S', z1, z2⟩ := this
            rw [z1] at st
            simp only [Option.bind_some, asV_n] at st
            rcases z2 with ⟨hb, hL⟩ | ⟨P, N, nn', k', E', U', y1, y2, y3, y4, y5, y6, y7, y8, y9, y10⟩
            · rw [T55_bad h I _ b _ _ _ _ hb] at st
              exact Or.inl ⟨_, _, _, _, _, _, st, by rw [lp]; exact hL⟩
            · subst y1 y2 y3 y4
              have := ih P (by omega) y6 nn' k' E' U' S' N (v + 1) g' y7 y9 y10 (Or.inl (by omega))
              rw [st, lp, y8]
              exact this
          · have nl : q_X9_isLetter (q_X5_at Q (nI s)) = 0 := by
              rw [cin] at ok ⊢
              rcases t.1.lt lt with ⟨y, _⟩ | ⟨y, _⟩
              · exact absurd (Or.inr y) ok
              · exact y
            have n59 : ¬ q_X5_at Q (nI s) = 59 := fun z => ok (Or.inl z)
            rw [V13_no t h g (nI (n + 1)) (nI v) _ hs.self (nI n) (nI 0) (-1) nl (fun _ => rfl) (fun _ => by decide) (fun z => absurd z n59)] at st
            simp only [Option.bind_some, asV_n] at st
            rw [T55_bad h I _ 1 _ _ _ _ i10] at st
            exact Or.inl ⟨_, _, _, _, _, _, st, fl (Or.inr (Or.inl ⟨n59, nl⟩))⟩
end
section
/-! New TREES stand: the reference. -/
theorem w_draftedZ {J : MJ} (h : RefL J) (Z : MI) {k f : Nat} {x : Int32} (hx : x = nI f) (hk : 4 * k + f < 240) : M_X10_drafted [mR (some 188), mI (nI k), mI x] (Z, J) = some (some (mI (Z 191 (4 * k + f))), (Z, J)) := by
  subst hx
  rw [E_X10_drafted, i4]
  simp only [h.f9, Option.bind_some, ldx h.s9 hk (by decide) rfl]
/-- what the row holds -/
def FrD (D : RowV) (N : Nat) (S : RowV) : Prop := (D 0 = 1 ∧ D 1 = 0 ∧ D 2 = 0 ∧ D 3 = 40 ∧ D 4 = nI N ∧ D 5 = 0 ∧ D 6 = -1 ∧ D 7 = -1) ∧ (∀ v, v < 3 → D (8 + v) = -1) ∧ (∀ k, k < 6 → D (11 + k) = -1) ∧ (∀ k, k < 4 → D (17 + 96 * k + 0) = 0) ∧ (∀ k, k < N → D (401 + 5 * k + 0) = S (4 * k) ∧ D (401 + 5 * k + 1) = S (4 * k + 1) ∧ D (401 + 5 * k + 2) = S (4 * k + 2) ∧ D (401 + 5 * k + 3) = S (4 * k + 3) ∧ D (401 + 5 * k + 4) = 1) ∧ (∀ e, e < 128 → D (701 + 9 * e + 0) = if e = 0 then 1 else 0) ∧ (D 702 = -1 ∧ D 703 = 0 ∧ D 704 = 0 ∧ D 705 = 0 ∧ D 706 = 0 ∧ D 707 = 0 ∧ D 708 = -1 ∧ D 709 = 0)
def nd5 (S : RowV) (k : Nat) (A : RowV) : RowV := sD (sD (sD (sD (sD A (401 + 5 * k + 0) (S (4 * k + 0))) (401 + 5 * k + 1) (S (4 * k + 1))) (401 + 5 * k + 2) (S (4 * k + 2))) (401 + 5 * k + 3) (S (4 * k + 3))) (401 + 5 * k + 4) 1
theorem nd5_o (S : RowV) (k : Nat) (A : RowV) {j : Nat} (h : j < 401 + 5 * k ∨ 401 + 5 * k + 5 ≤ j) : nd5 S k A j = A j := by
  unfold nd5
  rw [sD_n _ _ (by omega), sD_n _ _ (by omega), sD_n _ _ (by omega), sD_n _ _ (by omega), sD_n _ _ (by omega)]
theorem itr_nd5_o (S : RowV) : ∀ (n k : Nat) (A : RowV) {j : Nat}, (j < 401 + 5 * k ∨ 401 + 5 * (k + n) ≤ j) → itr (nd5 S) k n A j = A j
  | 0, k, A, j, _ => rfl
  | n + 1, k, A, j, h => by
    show itr (nd5 S) (k + 1) n (nd5 S k A) j = A j
    rw [itr_nd5_o S n (k + 1) _ (by omega), nd5_o S k A (by omega)]
theorem itr_nd5 (S : RowV) : ∀ (n k : Nat) (A : RowV) (m : Nat), k ≤ m → m < k + n → itr (nd5 S) k n A (401 + 5 * m + 0) = S (4 * m + 0) ∧ itr (nd5 S) k n A (401 + 5 * m + 1) = S (4 * m + 1) ∧ itr (nd5 S) k n A (401 + 5 * m + 2) = S (4 * m + 2) ∧ itr (nd5 S) k n A (401 + 5 * m + 3) = S (4 * m + 3) ∧ itr (nd5 S) k n A (401 + 5 * m + 4) = 1
  | 0, k, A, m, h1, h2 => by omega
  | n + 1, k, A, m, h1, h2 => by
    have e : itr (nd5 S) k (n + 1) A = itr (nd5 S) (k + 1) n (nd5 S k A) := rfl
    rw [e]
    rcases Nat.eq_or_lt_of_le h1 with z | z
    · subst z
      rw [itr_nd5_o S n (k + 1) _ (by omega), itr_nd5_o S n (k + 1) _ (by omega), itr_nd5_o S n (k + 1) _ (by omega), itr_nd5_o S n (k + 1) _ (by omega), itr_nd5_o S n (k + 1) _ (by omega)]
      unfold nd5
      refine ⟨?_, ?_, ?_, ?_, ?_⟩
      · rw [sD_n _ _ (by omega), sD_n _ _ (by omega), sD_n _ _ (by omega), sD_n _ _ (by omega), sD_s]
      · rw [sD_n _ _ (by omega), sD_n _ _ (by omega), sD_n _ _ (by omega), sD_s]
      · rw [sD_n _ _ (by omega), sD_n _ _ (by omega), sD_s]
      · rw [sD_n _ _ (by omega), sD_s]
      · rw [sD_s]
    · exact itr_nd5 S n (k + 1) _ m (by omega) (by omega)
def vr3 (v : Nat) (A : RowV) : RowV := sD (sD A (5 + v) (-1)) (8 + v) (-1)
theorem st_zero {J : MJ} (h : RefL J) (Y : MI) (A G : RowV) (c : Int32) : Ev T_X10_stands 15 [some (mR (some 188)), some (mI 0), none] [] (rF Y A G c, J) = Ev T_X10_stands 15 [some (mR (some 188)), some (mI (nI 1853)), none] [] (rF Y (itr (fun k A => sD A (0 + k) ((fun _ => 0) k)) 0 1853 A) G c, J) := by
  refine loop_all (fun k A => Ev T_X10_stands 15 [some (mR (some 188)), some (mI (nI k)), none] [] (rF Y A G c, J)) (fun k A => sD A (0 + k) ((fun _ => 0) k)) 1853 A (fun k A hk => ?_)
  try dsimp only
  rw [E_X10_stands_15, if_neg (show ¬ (1853 : Int32) ≤ nI k from nI_ge (b := 1853) hk (by decide))]
  simp only [h.f18, Option.bind_some]
  rw [h.stD _ 0 rfl hk, Option.bind_some, rF_sD, nI_1, Nat.zero_add]
theorem st_vol {J : MJ} (h : RefL J) (Y : MI) (A G : RowV) (c : Int32) : Ev T_X10_stands 55 [some (mR (some 188)), some (mI 0), none] [] (rF Y A G c, J) = Ev T_X10_stands 55 [some (mR (some 188)), some (mI (nI 3)), none] [] (rF Y (itr vr3 0 3 A) G c, J) := by
  refine loop_all (fun k A => Ev T_X10_stands 55 [some (mR (some 188)), some (mI (nI k)), none] [] (rF Y A G c, J)) vr3 3 A (fun k A hk => ?_)
  try dsimp only
  rw [E_X10_stands_55, if_neg (show ¬ (3 : Int32) ≤ nI k from nI_ge (b := 3) hk (by decide))]
  simp only [h.f18, Option.bind_some]
  rw [h.stD _ (-1) (show (5 : Int32) + nI k = nI (5 + k) from nI_add 5 k) (by omega), Option.bind_some, rF_sD]
  simp only [h.f18, Option.bind_some]
  rw [h.stD _ (-1) (show (8 : Int32) + nI k = nI (8 + k) from nI_add 8 k) (by omega), Option.bind_some, rF_sD, nI_1]
  rfl
theorem st_han {J : MJ} (h : RefL J) (Y : MI) (A G : RowV) (c : Int32) : Ev T_X10_stands 87 [some (mR (some 188)), some (mI 0), none] [] (rF Y A G c, J) = Ev T_X10_stands 87 [some (mR (some 188)), some (mI (nI 6)), none] [] (rF Y (itr (fun k A => sD A (11 + k) ((fun _ => -1) k)) 0 6 A) G c, J) := by
  refine loop_all (fun k A => Ev T_X10_stands 87 [some (mR (some 188)), some (mI (nI k)), none] [] (rF Y A G c, J)) (fun k A => sD A (11 + k) ((fun _ => -1) k)) 6 A (fun k A hk => ?_)
  try dsimp only
  rw [E_X10_stands_87, if_neg (show ¬ (6 : Int32) ≤ nI k from nI_ge (b := 6) hk (by decide))]
  simp only [h.f18, Option.bind_some]
  rw [h.stD _ (-1) (show (11 : Int32) + nI k = nI (11 + k) from nI_add 11 k) (by omega), Option.bind_some, rF_sD, nI_1]
theorem st_node {J : MJ} (h : RefL J) (Y : MI) (A G : RowV) (c : Int32) {k f : Nat} (hk : k < 40) (hf : f < 4) {x : Int32} (hx : x = nI f) : Ev T_X10_stands 121 [some (mR (some 188)), some (mI (nI k)), some (mI x)] [] (rF Y A G c, J) = Ev T_X10_stands 121 [some (mR (some 188)), some (mI (nI k)), some (mI (nI (f + 1)))] [] (rF Y (sD A (401 + 5 * k + f) (Y 191 (4 * k + f))) G c, J) := by
  subst hx
  rw [E_X10_stands_121, if_neg (show ¬ (4 : Int32) ≤ nI f from nI_ge (b := 4) hf (by decide))]
  simp only [h.f18, Option.bind_some, w_nodeAt _ k f rfl, asI_I, h.kt, if_true]
  rw [w_draftedZ h _ rfl (by omega), rF_o _ _ _ _ (by decide) (by decide) (by decide)]
  simp only [Option.bind_some, asI_I]
  rw [h.stD _ _ rfl (by omega), Option.bind_some, rF_sD, nI_1]
theorem st_nodes {J : MJ} (h : RefL J) (Y : MI) (A G : RowV) (c : Int32) {N : Nat} (hN : Y 188 10 = nI N) (N40 : N ≤ 40) : Ev T_X10_stands 111 [some (mR (some 188)), some (mI 0), none] [] (rF Y A G c, J) = Ev T_X10_stands 111 [some (mR (some 188)), some (mI (nI N)), none] [] (rF Y (itr (nd5 (Y 191)) 0 N A) G c, J) := by
  refine loop_all (fun k A => Ev T_X10_stands 111 [some (mR (some 188)), some (mI (nI k)), none] [] (rF Y A G c, J)) (nd5 (Y 191)) N A (fun k A hk => ?_)
  try dsimp only
  rw [E_X10_stands_111]
  simp only [h.fi, Option.bind_some]
  rw [rF_k _ _ _ _ (by decide), hN, if_neg (nI_ge hk (by omega))]
  rw [st_node h Y A G c (show k < 40 by omega) (show 0 < 4 by decide) (show (0 : Int32) = nI 0 from rfl), st_node h Y _ G c (show k < 40 by omega) (show 1 < 4 by decide) rfl, st_node h Y _ G c (show k < 40 by omega) (show 2 < 4 by decide) rfl, st_node h Y _ G c (show k < 40 by omega) (show 3 < 4 by decide) rfl]
  rw [E_X10_stands_121, if_pos (show (4 : Int32) ≤ nI (3 + 1) by decide)]
  simp only [h.f18, Option.bind_some, w_nodeAt _ k 4 (show (4 : Int32) = nI 4 from rfl), asI_I]
  rw [h.stD _ _ rfl (by omega), Option.bind_some, rF_sD, nI_1]
  rfl
theorem w_stands {J : MJ} (h : RefL J) (Y : MI) {N V : Nat} (y10 : Y 188 10 = nI N) (N40 : N ≤ 40) (y12 : Y 188 12 = nI V) (y21 : Y 188 21 = -1) : ∃ Z, M_X10_stands [mR (some 188)] (Y, J) = some (none, (Z, J)) ∧ FrD (Z 194) N (Y 191) ∧ (∀ x, x ≠ 188 → x ≠ 194 → Z x = Y x) ∧ (∀ k, k ≠ 11 → k ≠ 13 → k ≠ 28 → k ≠ 32 → k ≠ 36 → k ≠ 37 → Z 188 k = Y 188 k) ∧ Z 188 11 = nI V ∧ Z 188 13 = 1 ∧ Z 188 28 = 0 ∧ Z 188 32 = 0 ∧ Z 188 36 = 0 ∧ Z 188 37 = -1 := by
  have e1 : M_X10_stands [mR (some 188)] (Y, J) = Ev T_X10_stands 15 [some (mR (some 188)), some (mI 0), none] [] (up2 (up2 Y 188 13 1) 188 11 (nI V), J) := by
    have k12 : up2 Y 188 13 1 188 12 = nI V := by rw [up2_k _ _ _ (by decide)]; exact y12
    rw [E_X10_stands, wZ_ok 13 1 h.k (Or.inr rfl)]
    simp only [Option.bind_some, h.fi, k12, h.wi]
  have Y2k : ∀ k, k ≠ 13 → k ≠ 11 → up2 (up2 Y 188 13 1) 188 11 (nI V) 188 k = Y 188 k := fun k a b => by rw [up2_k _ _ _ b, up2_k _ _ _ a]
  have Y2o : ∀ x, x ≠ 188 → up2 (up2 Y 188 13 1) 188 11 (nI V) x = Y x := fun x a => by rw [up2_o _ _ _ a, up2_o _ _ _ a]
  have Y211 : up2 (up2 Y 188 13 1) 188 11 (nI V) 188 11 = nI V := up2_s _ _ _ _
  have Y213 : up2 (up2 Y 188 13 1) 188 11 (nI V) 188 13 = 1 := by rw [up2_k _ _ _ (by decide), up2_s]
  generalize up2 (up2 Y 188 13 1) 188 11 (nI V) = Y2 at e1 Y2k Y2o Y211 Y213
  have i0 : (Y2, J) = (rF Y2 (Y2 194) (Y2 195) (Y2 188 22), J) := by rw [rF_id]
  rw [i0, st_zero h] at e1
  have a1 : ∀ j, j < 1853 → itr (fun k A => sD A (0 + k) ((fun _ => (0 : Int32)) k)) 0 1853 (Y2 194) j = 0 := fun j hj => by
    rw [itr_sD 0 (fun _ => 0) 1853 0 _ j, if_pos (by omega)]
  generalize itr (fun k A => sD A (0 + k) ((fun _ => (0 : Int32)) k)) 0 1853 (Y2 194) = A1 at e1 a1
  have e2 : Ev T_X10_stands 15 [some (mR (some 188)), some (mI (nI 1853)), none] [] (rF Y2 A1 (Y2 195) (Y2 188 22), J) = Ev T_X10_stands 55 [some (mR (some 188)), some (mI 0), none] [] (rF Y2 (sD (sD A1 3 40) 4 (nI N)) (Y2 195) (Y2 188 22), J) := by
    rw [E_X10_stands_15, if_pos (show (1853 : Int32) ≤ nI 1853 by decide)]
    simp only [h.f18, Option.bind_some]
    rw [h.stD (k := 3) _ 40 (show (3 : Int32) = nI 3 from rfl) (by decide), Option.bind_some, rF_sD]
    simp only [h.f18, Option.bind_some, h.fi]
    rw [h.stD (k := 4) _ _ (show (4 : Int32) = nI 4 from rfl) (by decide), Option.bind_some, rF_sD, rF_k _ _ _ _ (by decide), Y2k 10 (by decide) (by decide), y10]
  rw [e2, st_vol h] at e1
  have a2 : ∀ j, j < 1853 → itr vr3 0 3 (sD (sD A1 3 40) 4 (nI N)) j = if 5 ≤ j ∧ j < 11 then -1 else if j = 4 then nI N else if j = 3 then 40 else 0 := fun j hj => by
    show vr3 2 (vr3 1 (vr3 0 (sD (sD A1 3 40) 4 (nI N)))) j = _
    unfold vr3
    by_cases z : 5 ≤ j ∧ j < 11
    · rw [if_pos z]
      have : j = 5 ∨ j = 6 ∨ j = 7 ∨ j = 8 ∨ j = 9 ∨ j = 10 := by omega
      rcases this with q | q | q | q | q | q <;> subst q <;> rfl
    · rw [if_neg z, sD_n _ _ (by omega), sD_n _ _ (by omega), sD_n _ _ (by omega), sD_n _ _ (by omega), sD_n _ _ (by omega), sD_n _ _ (by omega)]
      by_cases w : j = 4
      · rw [if_pos w, w, sD_s]
      · rw [if_neg w, sD_n _ _ w]
        by_cases u : j = 3
        · rw [if_pos u, u, sD_s]
        · rw [if_neg u, sD_n _ _ u, a1 j hj]
  generalize itr vr3 0 3 (sD (sD A1 3 40) 4 (nI N)) = A2 at e1 a2
  rw [E_X10_stands_55, if_pos (show (3 : Int32) ≤ nI 3 by decide), st_han h, E_X10_stands_87, if_pos (show (6 : Int32) ≤ nI 6 by decide), st_nodes h Y2 _ _ _ (by rw [Y2k 10 (by decide) (by decide)]; exact y10) N40] at e1
  have a3 : ∀ j, j < 1853 → itr (fun k A => sD A (11 + k) ((fun _ => (-1 : Int32)) k)) 0 6 A2 j = if 5 ≤ j ∧ j < 17 then -1 else if j = 4 then nI N else if j = 3 then 40 else 0 := fun j hj => by
    rw [itr_sD 11 (fun _ => -1) 6 0 _ j]
    by_cases z : 11 ≤ j ∧ j < 17
    · rw [if_pos (by omega), if_pos (by omega)]
    · rw [if_neg (by omega), a2 j hj]
      by_cases w : 5 ≤ j ∧ j < 11
      · rw [if_pos w, if_pos (by omega)]
      · rw [if_neg w, if_neg (show ¬ (5 ≤ j ∧ j < 17) by omega)]
  generalize itr (fun k A => sD A (11 + k) ((fun _ => (-1 : Int32)) k)) 0 6 A2 = A3 at e1 a3
  rw [Y2o 191 (by decide)] at e1
  have a4 : ∀ j, j < 1853 → (j < 401 ∨ 601 ≤ j) → itr (nd5 (Y 191)) 0 N A3 j = if 5 ≤ j ∧ j < 17 then -1 else if j = 4 then nI N else if j = 3 then 40 else 0 := fun j hj z => by
    rw [itr_nd5_o _ _ _ _ (by omega), a3 j hj]
  have a5 := fun m (hm : m < N) => itr_nd5 (Y 191) N 0 A3 m (Nat.zero_le _) (by omega)
  generalize itr (nd5 (Y 191)) 0 N A3 = A at e1 a4 a5
  have z0 : ∀ j, j < 1853 → (j < 401 ∨ 601 ≤ j) → (j < 3 ∨ 17 ≤ j) → A j = 0 := fun j hj p q => by
    rw [a4 j hj p, if_neg (by omega), if_neg (by omega), if_neg (by omega)]
  have mk : M_X10_makes [mR (some 188), mI (-1), mI 0, mI 0] (rF Y2 A (Y2 195) (Y2 188 22), J) = some (some (mI (nI 0)), (comeD (mk0 (rF Y2 A (Y2 195) (Y2 188 22)) 0 (-1) 0 0) 0, J)) := by
    refine w_makes h _ (-1) 0 0 (e := 0) ?_ (w_comesTo0 h _ ?_ (by decide))
    · refine fst_is (Nat.le_refl _) (by decide) ?_ (fun i a b => by omega)
      rw [rF_D]
      unfold thQ
      rw [z0 _ (by decide) (by decide) (by decide)]
      decide
    · unfold mk0
      rw [up2_o _ _ _ (by decide), up2_o _ _ _ (by decide), up2_o _ _ _ (by decide), up2_o _ _ _ (by decide), up2_o _ _ _ (by decide), up2_o _ _ _ (by decide), up2_o _ _ _ (by decide), up2_o _ _ _ (by decide), rF_k _ _ _ _ (by decide), Y2k 21 (by decide) (by decide)]
      exact y21
  have cm : comeD (mk0 (rF Y2 A (Y2 195) (Y2 188 22)) 0 (-1) 0 0) 0 = rF Y2 (sD (sD (sD (sD (sD (sD (sD (sD (sD (sD A 701 1) 702 (-1)) 703 0) 704 0) 705 0) 707 0) 708 (-1)) 709 0) 706 0) 0 1) (Y2 195) (Y2 188 22) := by
    unfold comeD mk0
    simp only [rF_sD, rF_D]
    have q0 : A 0 = 0 := z0 0 (by decide) (by decide) (by decide)
    have q1 : (sD (sD (sD (sD (sD (sD (sD (sD A (701 + 9 * 0 + 0) 1) (701 + 9 * 0 + 1) (-1)) (701 + 9 * 0 + 2) 0) (701 + 9 * 0 + 3) 0) (701 + 9 * 0 + 4) 0) (701 + 9 * 0 + 6) (A 0)) (701 + 9 * 0 + 7) (-1)) (701 + 9 * 0 + 8) 0) 0 = 0 := by
      rw [sD_n _ _ (by decide), sD_n _ _ (by decide), sD_n _ _ (by decide), sD_n _ _ (by decide), sD_n _ _ (by decide), sD_n _ _ (by decide), sD_n _ _ (by decide), sD_n _ _ (by decide), q0]
    rw [q1, q0]
    rfl
  rw [cm] at mk
  refine ⟨up2 (up2 (up2 (up2 (rF Y2 (sD (sD (sD (sD (sD (sD (sD (sD (sD (sD (sD A 701 1) 702 (-1)) 703 0) 704 0) 705 0) 707 0) 708 (-1)) 709 0) 706 0) 0 1) 5 0) (Y2 195) (Y2 188 22)) 188 28 0) 188 36 0) 188 37 (-1)) 188 32 0, ?_, ?_, ?_, ?_, ?_, ?_, ?_, ?_, ?_, ?_⟩
  · rw [e1, E_X10_stands_111]
    simp only [h.fi, Option.bind_some]
    rw [rF_k _ _ _ _ (by decide), Y2k 10 (by decide) (by decide), y10, if_pos (Int32.le_refl _)]
    simp only [h.f18, Option.bind_some, h.kt, if_true, mk, asI_I]
    rw [h.stD (k := 5) _ _ (show (5 : Int32) = nI 5 from rfl) (by decide), Option.bind_some, rF_sD]
    simp only [h.wi, Option.bind_some]
    rw [wZ_ok 32 0 h.k (Or.inl rfl), Option.bind_some]
    rfl
  · rw [up2_o _ _ _ (by decide), up2_o _ _ _ (by decide), up2_o _ _ _ (by decide), up2_o _ _ _ (by decide), rF_D]
    have so : ∀ j, (1 ≤ j ∧ j < 701 ∨ 710 ≤ j) → j ≠ 5 → (sD (sD (sD (sD (sD (sD (sD (sD (sD (sD (sD A 701 1) 702 (-1)) 703 0) 704 0) 705 0) 707 0) 708 (-1)) 709 0) 706 0) 0 1) 5 0) j = A j := fun j p q => by
      rw [sD_n _ _ (by omega), sD_n _ _ (by omega), sD_n _ _ (by omega), sD_n _ _ (by omega), sD_n _ _ (by omega), sD_n _ _ (by omega), sD_n _ _ (by omega), sD_n _ _ (by omega), sD_n _ _ (by omega), sD_n _ _ (by omega), sD_n _ _ (by omega)]
    have c1 : (sD (sD (sD (sD (sD (sD (sD (sD (sD (sD (sD A 701 1) 702 (-1)) 703 0) 704 0) 705 0) 707 0) 708 (-1)) 709 0) 706 0) 0 1) 5 0) 0 = 1 := rfl
    have c5 : (sD (sD (sD (sD (sD (sD (sD (sD (sD (sD (sD A 701 1) 702 (-1)) 703 0) 704 0) 705 0) 707 0) 708 (-1)) 709 0) 706 0) 0 1) 5 0) 5 = 0 := rfl
    have c701 : (sD (sD (sD (sD (sD (sD (sD (sD (sD (sD (sD A 701 1) 702 (-1)) 703 0) 704 0) 705 0) 707 0) 708 (-1)) 709 0) 706 0) 0 1) 5 0) 701 = 1 := by simp [sD]
    have cs : (sD (sD (sD (sD (sD (sD (sD (sD (sD (sD (sD A 701 1) 702 (-1)) 703 0) 704 0) 705 0) 707 0) 708 (-1)) 709 0) 706 0) 0 1) 5 0) 702 = -1 ∧ (sD (sD (sD (sD (sD (sD (sD (sD (sD (sD (sD A 701 1) 702 (-1)) 703 0) 704 0) 705 0) 707 0) 708 (-1)) 709 0) 706 0) 0 1) 5 0) 703 = 0 ∧ (sD (sD (sD (sD (sD (sD (sD (sD (sD (sD (sD A 701 1) 702 (-1)) 703 0) 704 0) 705 0) 707 0) 708 (-1)) 709 0) 706 0) 0 1) 5 0) 704 = 0 ∧ (sD (sD (sD (sD (sD (sD (sD (sD (sD (sD (sD A 701 1) 702 (-1)) 703 0) 704 0) 705 0) 707 0) 708 (-1)) 709 0) 706 0) 0 1) 5 0) 705 = 0 ∧ (sD (sD (sD (sD (sD (sD (sD (sD (sD (sD (sD A 701 1) 702 (-1)) 703 0) 704 0) 705 0) 707 0) 708 (-1)) 709 0) 706 0) 0 1) 5 0) 706 = 0 ∧ (sD (sD (sD (sD (sD (sD (sD (sD (sD (sD (sD A 701 1) 702 (-1)) 703 0) 704 0) 705 0) 707 0) 708 (-1)) 709 0) 706 0) 0 1) 5 0) 707 = 0 ∧ (sD (sD (sD (sD (sD (sD (sD (sD (sD (sD (sD A 701 1) 702 (-1)) 703 0) 704 0) 705 0) 707 0) 708 (-1)) 709 0) 706 0) 0 1) 5 0) 708 = -1 ∧ (sD (sD (sD (sD (sD (sD (sD (sD (sD (sD (sD A 701 1) 702 (-1)) 703 0) 704 0) 705 0) 707 0) 708 (-1)) 709 0) 706 0) 0 1) 5 0) 709 = 0 := by simp [sD]
    generalize (sD (sD (sD (sD (sD (sD (sD (sD (sD (sD (sD A 701 1) 702 (-1)) 703 0) 704 0) 705 0) 707 0) 708 (-1)) 709 0) 706 0) 0 1) 5 0) = D at so c1 c5 c701 cs
    have lo : ∀ j, 1 ≤ j → j < 401 → j ≠ 5 → D j = if 5 ≤ j ∧ j < 17 then -1 else if j = 4 then nI N else if j = 3 then 40 else 0 := fun j a b c => by rw [so j (by omega) c, a4 j (by omega) (by omega)]
    refine ⟨⟨c1, ?_, ?_, ?_, ?_, c5, ?_, ?_⟩, fun v hv => ?_, fun k hk => ?_, fun k hk => ?_, fun k hk => ?_, fun e he => ?_, cs⟩
    · rw [lo 1 (by decide) (by decide) (by decide)]; rfl
    · rw [lo 2 (by decide) (by decide) (by decide)]; rfl
    · rw [lo 3 (by decide) (by decide) (by decide)]; rfl
    · rw [lo 4 (by decide) (by decide) (by decide)]; rfl
    · rw [lo 6 (by decide) (by decide) (by decide)]; rfl
    · rw [lo 7 (by decide) (by decide) (by decide)]; rfl
    · rw [lo _ (by omega) (by omega) (by omega), if_pos (by omega)]
    · rw [lo _ (by omega) (by omega) (by omega), if_pos (by omega)]
    · rw [lo _ (by omega) (by omega) (by omega), if_neg (by omega), if_neg (by omega), if_neg (by omega)]
    · obtain ⟨b0, b1, b2, b3, b4⟩ := a5 k hk
      rw [so _ (by omega) (by omega), so _ (by omega) (by omega), so _ (by omega) (by omega), so _ (by omega) (by omega), so _ (by omega) (by omega)]
      exact ⟨b0, b1, b2, b3, b4⟩
    · by_cases z : e = 0
      · subst z
        rw [if_pos rfl]
        exact c701
      · rw [if_neg z, so _ (by omega) (by omega), z0 _ (by omega) (by omega) (by omega)]
  · intro x a b
    rw [up2_o _ _ _ a, up2_o _ _ _ a, up2_o _ _ _ a, up2_o _ _ _ a]
    by_cases z : x = 195
    · rw [z, rF_G]; exact Y2o 195 (by decide)
    · rw [rF_o _ _ _ _ a b z]; exact Y2o x a
  · intro k p1 p2 p3 p4 p5 p6
    rw [up2_k _ _ _ p4, up2_k _ _ _ p6, up2_k _ _ _ p5, up2_k _ _ _ p3]
    by_cases z : k = 22
    · rw [z, rF_c]; exact Y2k 22 (by decide) (by decide)
    · rw [rF_k _ _ _ _ z]; exact Y2k k p2 p1
  · rw [up2_k _ _ _ (by decide), up2_k _ _ _ (by decide), up2_k _ _ _ (by decide), up2_k _ _ _ (by decide), rF_k _ _ _ _ (by decide)]; exact Y211
  · rw [up2_k _ _ _ (by decide), up2_k _ _ _ (by decide), up2_k _ _ _ (by decide), up2_k _ _ _ (by decide), rF_k _ _ _ _ (by decide)]; exact Y213
  · rw [up2_k _ _ _ (by decide), up2_k _ _ _ (by decide), up2_k _ _ _ (by decide), up2_s]
  · rw [up2_s]
  · rw [up2_k _ _ _ (by decide), up2_k _ _ _ (by decide), up2_s]
  · rw [up2_k _ _ _ (by decide), up2_s]
end
section
/-! A world that begins. -/
def FrV (V : MemV) : Prop := (∀ e, e < 64 → V 1 e = if e = 0 then 1 else 0) ∧ (V 2 0 = -1 ∧ V 3 0 = 0 ∧ V 4 0 = nI 0 ∧ V 5 0 = 0 ∧ V 6 0 = 0 ∧ V 7 0 = 0 ∧ V 8 0 = 0) ∧ (V 0 11 = 40 ∧ V 0 12 = 1 ∧ V 0 13 = 0 ∧ V 0 14 = 0) ∧ (V 9 0 = 0 ∧ V 9 1 = -1 ∧ V 9 2 = -1) ∧ ∀ v, v < 3 → V 10 v = -1
theorem FrV.inv {U : NodV} {V : MemV} {n vol T : Nat} (h : FrV V) (hN : NodI U n vol) (hT : 1 ≤ T) (h30 : T ≤ 1000000000) : Inv U V H00 W00 n vol 1 T (fun _ => 0) ∧ CntI V := by
  obtain ⟨r1, ⟨r2, r3, r4, r5, r6, r7, r8⟩, ⟨n11, n12, n13, n14⟩, ⟨q0, q1, q2⟩, r10⟩ := h
  have e0 : V 1 0 = 1 := by rw [r1 0 (by decide), if_pos rfl]
  have is0 : ∀ e, e < 64 → ¬ V 1 e = 0 → e = 0 := fun e he z => by
    rw [r1 e he] at z
    by_cases w : e = 0
    · exact w
    · rw [if_neg w] at z; exact absurd rfl z
  have is1 : ∀ e, e < 64 → V 1 e = 1 → e = 0 := fun e he z => is0 e he (by rw [z]; exact i10)
  have not2 : ∀ e, e < 64 → ¬ V 1 e = 2 := fun e he z => by
    have : e = 0 := is0 e he (by rw [z]; decide)
    rw [this, e0] at z
    exact absurd z (by decide)
  have c1 : cnt (fun k => decide (¬ V 1 k = 0)) 0 64 = 1 := by
    have e : cnt (fun k => decide (¬ V 1 k = 0)) 0 64 = (if decide (¬ V 1 0 = 0) = true then 1 else 0) + cnt (fun k => decide (¬ V 1 k = 0)) 1 63 := rfl
    rw [e, cnt_zero (fun i a b => ?_), e0]
    · rfl
    · simp only [decide_eq_false_iff_not, Classical.not_not]
      rw [r1 i (by omega), if_neg (by omega)]
  have rts : U 5 0 = nI 0 := hN.r00
  have v9 : ∀ v, v < 3 → v ≠ 0 → V 9 v = -1 := fun v hv z => by
    have : v = 1 ∨ v = 2 := by omega
    rcases this with w | w <;> subst w
    · exact q1
    · exact q2
  refine ⟨⟨hN, ⟨fun e he => ?_, ⟨0, by decide, q0⟩, r10 0 (by decide), fun v hv => ?_, fun v h1 h3 z => ?_, fun v w hv hw z _ => absurd (r10 v hv) z, ⟨fun _ => 0, fun v o k u h1 h2 h3 h4 => ?_⟩, fun e he z _ => ⟨0, by decide, ?_⟩, fun e he z w => ?_, fun e he z => absurd z (not2 e he), fun e f he hf z1 z2 _ _ _ => ?_, fun e f he hf z1 z2 _ _ => ?_⟩, ⟨n12, hT, h30, fun e he z => ?_, fun e he z => ?_, ⟨40, n11, by decide, by decide⟩, ⟨0, n14, ?_⟩⟩, fun e he => ⟨fun _ => rfl, Nat.zero_le _, fun z => ?_⟩, fun k hk => Or.inl rfl, fun k hk z => absurd rfl z⟩, ?_⟩
  · rw [r1 e he]
    split
    · exact Or.inr (Or.inl rfl)
    · exact Or.inl rfl
  · by_cases z : v = 0
    · subst z
      exact Or.inr ⟨hN.v3.1, 0, by decide, q0, e0, r2, by rw [r4, rts]⟩
    · exact Or.inl ⟨v9 v hv z, r10 v hv⟩
  · exact absurd (v9 v h3 (by omega)) z
  · rw [r10 v h2] at h4
    exact absurd h4.symm (nI_m1 (by omega))
  · rw [is1 e he z]; exact q0
  · rw [is1 e he z] at w
    exact absurd r2 w
  · rw [is1 e he z1, is1 f hf z2]
  · rw [is0 e he z1, is0 f hf z2]
  · rw [is0 e he z]
    exact ⟨0, r8, by decide⟩
  · rw [is0 e he z]
    exact ⟨0, r6, by omega⟩
  · rw [c1]; omega
  · have ee := is0 e he z
    subst ee
    rw [hc00 V (by decide)]
    have h1 : hcC V 0 = 0 := by
      unfold hcC
      refine cnt_zero (fun i a b => ?_)
      simp only [decide_eq_false_iff_not]
      rintro ⟨x1, x2⟩
      rw [is0 i (by omega) x1, r2] at x2
      exact absurd x2.symm (nI_m1 (by decide))
    have h2 : hcV V 0 = 0 := by
      unfold hcV
      refine cnt_zero (fun i a b => ?_)
      simp only [decide_eq_false_iff_not]
      rw [r10 i (by omega)]
      exact fun x => nI_m1 (show 0 < 2 ^ 31 by decide) x.symm
    rw [h1, h2]
    exact ⟨r5, fun w => absurd w (not2 0 he)⟩
  · unfold CntI
    rw [c1]
    omega
theorem FrV.rel {U : NodV} {S : RowV} {V : MemV} {D : RowV} {n vol : Nat} (h : FrV V) (hD : DI U S n vol) (f : FrD D n S) : Rel none U V H00 W00 D n := by
  obtain ⟨r1, ⟨r2, r3, r4, r5, r6, r7, r8⟩, ⟨n11, n12, n13, n14⟩, ⟨q0, q1, q2⟩, r10⟩ := h
  obtain ⟨⟨d0, d1, d2, d3, d4, d5, d6, d7⟩, d8, d11, d17, dn, de, ⟨x1, x2, x3, x4, x5, x6, x7, x8⟩⟩ := f
  have e0 : V 1 0 = 1 := by rw [r1 0 (by decide), if_pos rfl]
  have is0 : ∀ e, e < 64 → ¬ V 1 e = 0 → e = 0 := fun e he z => by
    rw [r1 e he] at z
    by_cases w : e = 0
    · exact w
    · rw [if_neg w] at z; exact absurd rfl z
  refine ⟨⟨by rw [d0, n12], by rw [d1, n13], by rw [d2, n14], by rw [d3, n11], by rw [d4, hD.1.1], fun v hv => ?_, fun v hv => by rw [d8 v hv, r10 v hv], fun k hk => by rw [d11 k hk]; rfl, fun k hk => ?_, fun e he => ?_, fun e he z => ?_⟩, fun k hk => ⟨by rw [d17 k hk]; rfl, fun z => absurd rfl z, fun z => absurd rfl z, fun z => absurd rfl z⟩, fun k hk z => absurd rfl z, fun k z => by cases z⟩
  · have : v = 0 ∨ v = 1 ∨ v = 2 := by omega
    rcases this with w | w | w <;> subst w
    · exact d5.trans q0.symm
    · exact d6.trans q1.symm
    · exact d7.trans q2.symm
  · obtain ⟨y0, y1, y2, y3, y4⟩ := dn k hk
    obtain ⟨z0, z2, z1⟩ := hD.2.1 k hk
    rw [y0, y1, y2, y3, y4, if_neg (hD.kd hk)]
    refine ⟨z0, z2, ?_, rfl, fun _ => ?_⟩
    · rcases hD.2.2.1 k hk with ⟨_, w1, w2, _⟩ | ⟨p, _, _, _, _, w⟩
      · exact Or.inr ⟨w1, w2⟩
      · exact Or.inl w
    · rcases z1 with ⟨w1, w2⟩ | ⟨w1, w2⟩
      · rw [w1, w2]; rfl
      · rw [w1, w2]; rfl
  · rw [de e he]
    by_cases z : e = 0
    · subst z
      rw [if_pos rfl, if_pos ⟨by decide, by rw [e0]; exact i10⟩]
    · rw [if_neg z]
      rw [if_neg]
      rintro ⟨a, b⟩
      exact z (is0 e a b)
  · have ee := is0 e he z
    subst ee
    have cv : q_X1_coveringVolume V (nI 0) = -1 := by
      show oI (f_X1_coveringVolume V (nI 0)) = -1
      have : f_X1_coveringVolume V (nI 0) = none := by
        refine fst_no (fun i a b => ?_)
        rw [r10 i (by omega)]
        decide
      rw [this]
      rfl
    rw [r2, r3, r4, r6, r7, r8, cv, e0]
    exact ⟨x1, Or.inr ⟨rfl, x2⟩, x3, x4, x5, x6, x7, x8⟩
/-- the class's memory when a world begins -/
theorem FrV.new {U : NodV} (V : MemV) (hr : q_X2_rootOf U 0 = nI 0) : FrV (gV_X1_startAnew U V) := by
  have base : ∀ W : MemV, W = uv (uv (uv (uv (uv (cpv (cpv (cpv V 1 64 (fun _ => 0)) 9 3 (fun _ => (-1))) 10 3 (fun _ => (-1))) 0 11 40) 0 12 0) 0 13 0) 0 14 0) 0 16 0 → (∀ e, e < 64 → W 1 e = 0) ∧ (∀ v, v < 3 → W 9 v = -1 ∧ W 10 v = -1) ∧ W 0 11 = 40 ∧ W 0 12 = 0 ∧ W 0 13 = 0 ∧ W 0 14 = 0 := by
    intro W e
    subst e
    refine ⟨fun e he => ?_, fun v hv => ⟨?_, ?_⟩, ?_, ?_, ?_, ?_⟩
    · simp [uv, cpv, he]
    · simp [uv, cpv, hv]
    · simp [uv, cpv, hv]
    · simp [uv]
    · simp [uv]
    · simp [uv]
    · simp [uv]
  unfold gV_X1_startAnew
  rw [hr]
  obtain ⟨b1, b9, b11, b12, b13, b14⟩ := base _ rfl
  generalize uv (uv (uv (uv (uv (cpv (cpv (cpv V 1 64 (fun _ => 0)) 9 3 (fun _ => (-1))) 10 3 (fun _ => (-1))) 0 11 40) 0 12 0) 0 13 0) 0 14 0) 0 16 0 = W at b1 b9 b11 b12 b13 b14
  have lu : f_X1_leastUnused W = some 0 := by
    refine fst_is (Nat.le_refl _) (by decide) ?_ (fun i a b => by omega)
    rw [b1 0 (by decide)]
    rfl
  rw [ad_q lu]
  have k : ∀ q : Fin 12, q ≠ 9 → uv (gV_X1_add W (-1) 0 (nI 0)) 9 0 (nI 0) q = gV_X1_add W (-1) 0 (nI 0) q := fun q hq => uv_k _ _ _ _ _ hq
  refine ⟨fun e he => ?_, ⟨?_, ?_, ?_, ?_, ?_, ?_, ?_⟩, ⟨?_, ?_, ?_, ?_⟩, ⟨?_, ?_, ?_⟩, fun v hv => ?_⟩
  · rw [k 1 (by decide), ad_1 lu, b1 e he]
  · rw [k 2 (by decide), ad_2 lu, if_pos rfl]
  · rw [k 3 (by decide), ad_3 lu, if_pos rfl]
  · rw [k 4 (by decide), ad_4 lu, if_pos rfl]
  · rw [k 5 (by decide), ad_5r lu, if_pos rfl]
  · rw [k 6 (by decide), ad_6 lu, if_pos rfl]
  · rw [k 7 (by decide), ad_7 lu, if_pos rfl, b12]
  · rw [k 8 (by decide), ad_8 lu, if_pos rfl, b12]
  · rw [k 0 (by decide), ad_0 lu _ _ _ _ (by decide) (by decide), b11]
  · rw [k 0 (by decide), ad_t lu, b12]; rfl
  · rw [k 0 (by decide), ad_0 lu _ _ _ _ (by decide) (by decide), b13]
  · rw [k 0 (by decide), ad_0 lu _ _ _ _ (by decide) (by decide), b14]
  · exact uv_s _ _ _ _
  · rw [uv_n _ _ _ _ _ _ (by decide), ad_k lu _ _ _ _ (Or.inl rfl), (b9 1 (by decide)).1]
  · rw [uv_n _ _ _ _ _ _ (by decide), ad_k lu _ _ _ _ (Or.inl rfl), (b9 2 (by decide)).1]
  · rw [k 10 (by decide), ad_k lu _ _ _ _ (Or.inr rfl), (b9 v hv).2]
/-- a world begun with a draft -/
theorem Wd.new {I : MI} {n2 n m g w N vol T : Nat} {S D : RowV} (hD : DI (vw 6 I n2) S N vol) (h1 : 1 ≤ vol) (f : FrD D N S) (d1 : n + 6 ≤ m) (d2 : m + 12 ≤ g) (d3 : g < w) (hT : 1 ≤ T) (h30 : T ≤ 1000000000) : Wd (h_X8_startWith I n2 n m g w) n m g w D vol T := by
  have itr_out : ∀ (q k : Nat) (X : MI) {x : Nat}, (x < w ∨ w + 24 ≤ x) → k + q ≤ 4 → itr (fun k I => up2 I (w + 6 * k) 5 0) k q X x = X x := by
    intro q
    induction q with
    | zero => intro k X x _ _; rfl
    | succ q ih =>
      intro k X x hx hk
      show itr (fun k I => up2 I (w + 6 * k) 5 0) (k + 1) q (up2 X (w + 6 * k) 5 0) x = X x
      rw [ih (k + 1) _ hx (by omega), up2_o _ _ _ (by omega)]
  have o : ∀ x, (x < w ∨ w + 24 ≤ x) → h_X8_startWith I n2 n m g w x = fun y => if x = g ∧ y < 6 then (-1) else (pt (pt I n (gU_X2_copyFrom (vw 6 I n2) (vw 6 I n))) m (gV_X1_startAnew (gU_X2_copyFrom (vw 6 I n2) (vw 6 I n)) (vw 12 I m))) x y := by
    intro x hx
    unfold h_X8_startWith
    rw [itr_out 4 0 _ hx (by decide)]
  have eU : vw 6 (h_X8_startWith I n2 n m g w) n = gU_X2_copyFrom (vw 6 I n2) (vw 6 I n) := by
    funext k j
    have := k.isLt
    show h_X8_startWith I n2 n m g w (n + k.val) j = _
    rw [o _ (by omega)]
    show (if n + k.val = g ∧ j < 6 then _ else _) = _
    rw [if_neg (by omega), pt_out (by omega), pt_in]
  have eV : vw 12 (h_X8_startWith I n2 n m g w) m = gV_X1_startAnew (gU_X2_copyFrom (vw 6 I n2) (vw 6 I n)) (vw 12 I m) := by
    funext k j
    have := k.isLt
    show h_X8_startWith I n2 n m g w (m + k.val) j = _
    rw [o _ (by omega)]
    show (if m + k.val = g ∧ j < 6 then _ else _) = _
    rw [if_neg (by omega), pt_in]
  have uc := UEq.copy (vw 6 I n2) (vw 6 I n)
  have rt : q_X2_rootOf (gU_X2_copyFrom (vw 6 I n2) (vw 6 I n)) 0 = nI 0 := by
    unfold q_X2_rootOf q_X2_hasVolume
    rw [if_neg (show ¬ (0 : Int32) < 0 by decide), if_neg (show ¬ (3 : Int32) ≤ 0 by decide), uc.2.1, hD.1.2.2.1, if_neg (show ¬ nI vol ≤ 0 from nI_ge (a := 0) h1 (by have := hD.1.2.2.2; omega)), if_neg i10]
    exact (uc.2.2.2 0 (by decide)).trans (hD.2.2.2.2.2.1 h1)
  have fv := FrV.new (U := gU_X2_copyFrom (vw 6 I n2) (vw 6 I n)) (vw 12 I m) rt
  obtain ⟨iv, cv⟩ := fv.inv (hD.nod h1) hT h30
  have rv := fv.rel hD f
  have hH : HEq' (vw 1 (h_X8_startWith I n2 n m g w) g) H00 := by
    intro k hk
    show h_X8_startWith I n2 n m g w (g + 0) k = -1
    rw [Nat.add_zero, o g (by omega)]
    exact if_pos ⟨rfl, hk⟩
  have at5 : ∀ (q k : Nat) (X : MI) (j : Nat), k ≤ j → j < k + q → itr (fun k I => up2 I (w + 6 * k) 5 0) k q X (w + 6 * j) 5 = 0 := by
    intro q
    induction q with
    | zero => intro k X j a b; omega
    | succ q ih =>
      intro k X j a b
      show itr (fun k I => up2 I (w + 6 * k) 5 0) (k + 1) q (up2 X (w + 6 * k) 5 0) (w + 6 * j) 5 = 0
      rcases Nat.eq_or_lt_of_le a with z | z
      · subst z
        have keep : ∀ (q i : Nat) (X : MI), k < i → X (w + 6 * k) 5 = 0 → itr (fun k I => up2 I (w + 6 * k) 5 0) i q X (w + 6 * k) 5 = 0 := by
          intro q
          induction q with
          | zero => intro i X _ e; exact e
          | succ q ih2 =>
            intro i X hi e
            show itr (fun k I => up2 I (w + 6 * k) 5 0) (i + 1) q (up2 X (w + 6 * i) 5 0) (w + 6 * k) 5 = 0
            refine ih2 (i + 1) _ (by omega) ?_
            rw [up2_o _ _ _ (by omega)]
            exact e
        exact keep q (k + 1) _ (by omega) (up2_s _ _ _ _)
      · exact ih (k + 1) _ j (by omega) (by omega)
  have hW : ∀ k, k < 4 → WkEq (wks (h_X8_startWith I n2 n m g w) w k) (W00 k) := by
    intro k hk
    refine ⟨?_, fun z => absurd rfl z⟩
    show bz (h_X8_startWith I n2 n m g w (w + 6 * k + 0) 5) = bz 0
    rw [Nat.add_zero]
    unfold h_X8_startWith
    rw [at5 4 0 _ k (Nat.zero_le _) (by omega)]
  refine ⟨N, 1, ?_, ?_, ?_⟩
  · refine iv.cg ?_ ?_ hH hW
    · rw [eU]; exact uc
    · rw [eV]; exact VEq.refl _
  · rw [eV]; exact cv
  · refine rv.cg (by have := hD.1.2.1; omega) ?_ ?_ hH hW (fun _ _ => rfl)
    · rw [eU]; exact uc
    · rw [eV]; exact VEq.refl _
end
section
/-! TREES told: both sides alike, but for the FAULT's number. -/
def tsX (Y : MI) (T : Nat) : MI := up2 (up2 Y 188 3 (nI T)) 188 1 0
theorem tsX_o (Y : MI) (T : Nat) {x : Nat} (h : x ≠ 188) : tsX Y T x = Y x := by
  unfold tsX
  rw [up2_o _ _ _ h, up2_o _ _ _ h]
theorem tsX_k (Y : MI) (T : Nat) {k : Nat} (h1 : k ≠ 1) (h3 : k ≠ 3) : tsX Y T 188 k = Y 188 k := by
  unfold tsX
  rw [up2_k _ _ _ h1, up2_k _ _ _ h3]
theorem tsX_1 (Y : MI) (T : Nat) : tsX Y T 188 1 = 0 := up2_s _ _ _ _
theorem tsX_3 (Y : MI) (T : Nat) : tsX Y T 188 3 = nI T := by
  unfold tsX
  rw [up2_k _ _ _ (by decide), up2_s]
theorem T55_sk {I : MI} {Q : RouV} {T : Nat} (t : RTap I Q T) {J : MJ} (h : RefL J) (g m v : Int32) (S : RowV) {p s : Nat} (hs : Sk Q T p s) : T55 (vF I (nI s) 0 g m v S, J) = T55 (vF I (nI p) 0 g m v S, J) := by
  unfold T55
  rw [E_X10_trees_55, E_X10_trees_55]
  simp only [h.fi, vF_4, Option.bind_some, if_true, h.kt, w_look0 t h 0 g m v S hs, w_look0 t h 0 g m v S hs.self]
theorem w_trees0 {Y : MI} {Q : RouV} {T : Nat} {J : MJ} (h : RefL J) (y1 : Y 188 1 = nI T) (t : RTap (tsX Y T) Q T) {s : Nat} (hs : Sk Q T 0 s) : M_X10_trees [mR (some 188)] (Y, J) = if q_X5_at Q (nI s) = -1 then T55 (vF (tsX Y T) (nI s) 1 (nI T) (nI 0) (nI 0) (Y 191), J) else T55 (vF (tsX Y T) (nI s) 0 (-1) (nI 0) (nI 0) (Y 191), J) := by
  have hv : up2 (up2 (up2 (up2 (up2 (tsX Y T) 188 2 0) 188 4 0) 188 5 (-1)) 188 10 0) 188 12 0 = vF (tsX Y T) (nI 0) 0 (-1) (nI 0) (nI 0) (Y 191) := by
    have e : tsX Y T = vF (tsX Y T) (tsX Y T 188 2) (tsX Y T 188 4) (tsX Y T 188 5) (tsX Y T 188 10) (tsX Y T 188 12) (Y 191) := by
      funext a j
      unfold vF
      by_cases z : a = 191
      · rw [if_pos z, z, tsX_o _ _ (by decide)]
      · rw [if_neg z]
        by_cases w : a = 188
        · rw [if_pos w, w]
          by_cases c2 : j = 2
          · rw [if_pos c2, c2]
          · rw [if_neg c2]
            by_cases c4 : j = 4
            · rw [if_pos c4, c4]
            · rw [if_neg c4]
              by_cases c5 : j = 5
              · rw [if_pos c5, c5]
              · rw [if_neg c5]
                by_cases c10 : j = 10
                · rw [if_pos c10, c10]
                · rw [if_neg c10]
                  by_cases c12 : j = 12
                  · rw [if_pos c12, c12]
                  · rw [if_neg c12]
        · rw [if_neg w]
    rw [e, vF_s2, vF_s4, vF_s5, vF_s10, vF_s12, ← e]
    rfl
  unfold T55
  rw [E_X10_trees]
  simp only [h.fi, y1, Option.bind_some, h.wi]
  rw [show up2 (up2 Y 188 3 (nI T)) 188 1 0 = tsX Y T from rfl, hv]
  simp only [h.kt, if_true, w_look0 t h 0 (-1) (nI 0) (nI 0) (Y 191) hs, Option.bind_some, asI_I, h.fi, vF_3, tsX_3, w_fail0 h, asV_n]
theorem DI.nil (U : NodV) (S : RowV) : DI (gU_X2_clear U) S 0 0 := by
  unfold gU_X2_clear
  refine ⟨⟨?_, by decide, ?_, by decide⟩, fun k hk => by omega, fun k hk => by omega, fun v hv => by omega, fun k j hk => by omega, fun z => by omega, fun k hk => by omega⟩
  · simp [uv]; rfl
  · simp [uv]; rfl
theorem trees_both {Y : MI} {Q : RouV} {T : Nat} {J : MJ} (h : RefL J) (y1 : Y 188 1 = nI T) (t : RTap (tsX Y T) Q T) (E : OneV) (U : NodV) : Fin55 (tsX Y T) J (o_X3_readTrees E Q U) (M_X10_trees [mR (some 188)] (Y, J)) := by
  have T4 := t.1.1
  obtain ⟨s, hs⟩ := Sk.ex Q (Nat.zero_le T)
  have s2 := hs.2.1
  have eo : EO (uv (uv (uv (uv (uv (uv E 0 1 0) 0 2 (-1)) 0 3 0) 0 4 0) 0 5 (-1)) 0 6 0) 0 := ⟨by simp [uv], by simp [uv]; rfl, by simp [uv]; rfl, by simp [uv]; rfl⟩
  have di := DI.nil U (Y 191)
  have oe : o_X3_readTrees E Q U = RTl Q 801 0 1 (uv (uv (uv (uv (uv (uv E 0 1 0) 0 2 (-1)) 0 3 0) 0 4 0) 0 5 (-1)) 0 6 0) (gU_X2_clear U) := rfl
  rw [oe, w_trees0 h y1 t hs]
  generalize (uv (uv (uv (uv (uv (uv E 0 1 0) 0 2 (-1)) 0 3 0) 0 4 0) 0 5 (-1)) 0 6 0) = E0 at eo
  generalize gU_X2_clear U = U0 at di
  by_cases sT : s = T
  · have c : q_X5_at Q (nI s) = -1 := t.1.out (by omega) (by omega)
    rw [if_pos c, T55_bad h _ _ 1 _ _ _ _ i10]
    refine Or.inl ⟨_, _, _, _, _, _, rfl, ?_⟩
    have u0 : U0 0 6 = 0 := di.1.2.2.1
    have q1 : q_X3_readOutside (uv E0 0 3 (nI s)) U0 (-1) = 0 := by
      unfold q_X3_readOutside
      rw [if_pos rfl, if_pos u0]
      exact if_pos rfl
    have q2 : gE_X3_readOutside (uv E0 0 3 (nI s)) U0 (-1) = gE_X3_fail (uv E0 0 3 (nI s)) 1 (nI s) := by
      unfold gE_X3_readOutside
      rw [if_pos rfl, if_pos u0, uv_s]
      exact if_pos rfl
    rw [lp_out t.1 hs 800 0 E0 U0 eo.2.1 eo.2.2.2, c, q1, q2]
    exact lp_fail _ _ _ _ _ _ _ i10
  · have lt : s < T := by omega
    have hc : ¬ q_X5_at Q (nI s) = -1 := by
      obtain ⟨b, b1, b2⟩ := t.1.2.2 s lt
      rw [t.1.in lt, b2]
      exact nI_m1 (by omega)
    rw [if_neg hc, T55_sk t h _ _ _ _ hs]
    exact trees_out t h T 0 (by omega) (by omega) 801 0 E0 U0 (Y 191) 0 0 (-1) (by omega) eo di (Or.inr ⟨s, hs, lt⟩)
theorem fF_o (Y : MI) {x : Nat} (h : x ≠ 188) : fF Y x = Y x := by
  unfold fF
  rw [up2_o _ _ _ h, up2_o _ _ _ h]
theorem fF_k (Y : MI) {k : Nat} (h6 : k ≠ 6) (h7 : k ≠ 7) : fF Y 188 k = Y 188 k := by
  unfold fF
  rw [up2_k _ _ _ h7, up2_k _ _ _ h6]
theorem trI_o (I : MI) {x : Nat} (h : x < 7 ∨ x = 8 ∨ 16 ≤ x) : trI I x = I x := by
  unfold trI
  rw [clr_o _ (by omega), pt_out (by omega), pt_out (by omega)]
theorem trI_7 (I : MI) : trI I 7 1 = 0 := clr_7 _
theorem trI_d (I : MI) : vw 6 (trI I) 10 = gU_X3_readTrees (vw 1 I 9) (vw 2 I 7) (vw 6 I 10) := by
  unfold trI
  rw [vw_fr (I := pt (pt I 9 (gE_X3_readTrees (vw 1 I 9) (vw 2 I 7) (vw 6 I 10))) 10 (gU_X3_readTrees (vw 1 I 9) (vw 2 I 7) (vw 6 I 10))) (fun x a b => clr_o _ (by omega)), vw_pt]
theorem sw_out {X : MI} {n2 n m g w : Nat} {x : Nat} (hn : x < n ∨ n + 6 ≤ x) (hm : x < m ∨ m + 12 ≤ x) (hg : x ≠ g) (hw : x < w ∨ w + 24 ≤ x) : h_X8_startWith X n2 n m g w x = X x := by
  have itr_out : ∀ (q k : Nat) (X : MI) {x : Nat}, (x < w ∨ w + 24 ≤ x) → k + q ≤ 4 → itr (fun k I => up2 I (w + 6 * k) 5 0) k q X x = X x := by
    intro q
    induction q with
    | zero => intro k X x _ _; rfl
    | succ q ih =>
      intro k X x hx hk
      show itr (fun k I => up2 I (w + 6 * k) 5 0) (k + 1) q (up2 X (w + 6 * k) 5 0) x = X x
      rw [ih (k + 1) _ hx (by omega), up2_o _ _ _ (by omega)]
  unfold h_X8_startWith
  rw [itr_out 4 0 _ hw (by decide)]
  funext y
  show (if x = g ∧ y < 6 then _ else _) = _
  rw [if_neg (fun z => hg z.1), pt_out hm, pt_out hn]
theorem P_trees {I : MI} {J : MJ} {T B0 : Nat} (h : St I J T B0) (h30 : T + 10001 ≤ 1000000000) : Pair I J T B0 (M_X9_trees [mR (some 0)]) (M_X10_trees [mR (some 188)]) := by
  obtain ⟨n, t1, t2, t3⟩ := h.2.1
  have n4 := t1.1
  have rl := h.1.2
  have uE := u_trees h.1.1 I
  have tq : trQ I = (o_X3_readTrees (vw 1 I 9) (vw 2 I 7) (vw 6 I 10)).1 := rfl
  by_cases z : trQ I = 0
  · rw [if_pos z] at uE
    have yo : ∀ x, (x < 7 ∨ x = 8 ∨ 16 ≤ x) → x ≠ 186 → rfz (trI I) 1 x = I x := fun x a b => by rw [rfz_o _ _ b, trI_o I a]
    have y7 : rfz (trI I) 1 7 1 = 0 := by rw [rfz_o _ _ (by decide)]; exact trI_7 I
    have y186 : ∀ j, rfz (trI I) 1 186 j = if j = 1 then I 186 1 + 1 else I 186 j := fun j => by
      unfold rfz
      rw [up2_r, trI_o I (by omega)]
    generalize rfz (trI I) 1 = Y at uE yo y7 y186
    have t : RTap (tsX Y n) (vw 2 I 7) n := ⟨t1, tsX_3 Y n, fun k hk => by
      rw [tsX_o _ _ (by decide), yo 189 (by omega) (by decide), t3 k hk]
      rfl⟩
    rcases trees_both rl (by rw [yo 188 (by omega) (by decide)]; exact t2) t (vw 1 I 9) (vw 6 I 10) with ⟨p, b, g, m, v, S, e, _⟩ | ⟨_, _, _, _, _, _, q, _⟩
    · refine ⟨-1, _, _, J, uE, e, ?_⟩
      have zo : ∀ x, x ≠ 188 → x ≠ 190 → x ≠ 191 → rfR (fF (vF (tsX Y n) p b g m v S)) 1 x = Y x := fun x a b c => by
        rw [rfR_o _ _ b, fF_o _ a, vF_o _ _ _ _ _ _ _ a c, tsX_o _ _ a]
      have zk : ∀ k, k ≠ 1 → k ≠ 2 → k ≠ 3 → k ≠ 4 → k ≠ 5 → k ≠ 6 → k ≠ 7 → k ≠ 10 → k ≠ 12 → rfR (fF (vF (tsX Y n) p b g m v S)) 1 188 k = I 188 k := fun k k1 k2 k3 k4 k5 k6 k7 k10 k12 => by
        rw [rfR_o _ _ (by decide), fF_k _ k6 k7, vF_k _ _ _ _ _ _ _ k2 k4 k5 k10 k12, tsX_k _ _ k1 k3, yo 188 (by omega) (by decide)]
      have z1 : rfR (fF (vF (tsX Y n) p b g m v S)) 1 188 1 = 0 := by
        rw [rfR_o _ _ (by decide), fF_k _ (by decide) (by decide), vF_k _ _ _ _ _ _ _ (by decide) (by decide) (by decide) (by decide) (by decide), tsX_1]
      have z190 : ∀ j, rfR (fF (vF (tsX Y n) p b g m v S)) 1 190 j = if j = 1 then I 190 1 + 1 else I 190 j := fun j => by
        unfold rfR
        rw [up2_r, fF_o _ (by decide), vF_o _ _ _ _ _ _ _ (by decide) (by decide), tsX_o _ _ (by decide), yo 190 (by omega) (by decide)]
      generalize rfR (fF (vF (tsX Y n) p b g m v S)) 1 = Z at zo zk z1 z190
      have o : ∀ x, (x < 7 ∨ x = 8 ∨ 16 ≤ x) → x ≠ 186 → x ≠ 188 → x ≠ 190 → x ≠ 191 → Z x = I x := fun x a b c d e => by rw [zo x c d e, yo x a b]
      obtain ⟨L, s7⟩ := h.2.2.2.2.2.2.2.1
      refine h.sm (S1.emp (by rw [zo 7 (by decide) (by decide) (by decide)]; exact y7) z1) trivial (h.2.2.2.1.ref (k := 1) (fun j => by rw [zo 186 (by decide) (by decide) (by decide)]; exact y186 j) z190 (by decide)) (h.2.2.2.2.1.fr (by rw [o 0 (by decide) (by decide) (by decide) (by decide) (by decide)]) (o _ (by decide) (by decide) (by decide) (by decide) (by decide)) (zk _ (by decide) (by decide) (by decide) (by decide) (by decide) (by decide) (by decide) (by decide) (by decide)) (o _ (by decide) (by decide) (by decide) (by decide) (by decide))) (h.2.2.2.2.2.1.fr (by rw [o 0 (by decide) (by decide) (by decide) (by decide) (by decide)]) (o _ (by decide) (by decide) (by decide) (by decide) (by decide)) (zk _ (by decide) (by decide) (by decide) (by decide) (by decide) (by decide) (by decide) (by decide) (by decide)) (o _ (by decide) (by decide) (by decide) (by decide) (by decide))) ⟨L, s7.fr (by rw [o 69 (by decide) (by decide) (by decide) (by decide) (by decide)]) (by rw [o 69 (by decide) (by decide) (by decide) (by decide) (by decide)]) (fun y _ _ => o y (by omega) (by omega) (by omega) (by omega) (by omega)) (zk _ (by decide) (by decide) (by decide) (by decide) (by decide) (by decide) (by decide) (by decide) (by decide)) (zk _ (by decide) (by decide) (by decide) (by decide) (by decide) (by decide) (by decide) (by decide) (by decide)) (o _ (by decide) (by decide) (by decide) (by decide) (by decide)) (o _ (by decide) (by decide) (by decide) (by decide) (by decide))⟩ (h.2.2.2.2.2.2.2.2.1.fr (zk _ (by decide) (by decide) (by decide) (by decide) (by decide) (by decide) (by decide) (by decide) (by decide)) (zk _ (by decide) (by decide) (by decide) (by decide) (by decide) (by decide) (by decide) (by decide) (by decide))) (fun y a _ _ _ _ _ => o y (by omega) (by omega) (by omega) (by omega) (by omega)) (o _ (by decide) (by decide) (by decide) (by decide) (by decide)) (fun _ => ⟨by rw [o 69 (by decide) (by decide) (by decide) (by decide) (by decide)], by rw [o 69 (by decide) (by decide) (by decide) (by decide) (by decide)]⟩) (fun y a => o y (by omega) (by omega) (by omega) (by omega) (by omega)) (fun k q => zk k (by omega) (by omega) (by omega) (by omega) (by omega) (by omega) (by omega) (by omega) (by omega)) (fun k _ => by rw [o 194 (by decide) (by decide) (by decide) (by decide) (by decide)]) (o _ (by decide) (by decide) (by decide) (by decide) (by decide)) (by omega) h30
    · rw [← tq, z] at q
      exact absurd q.symm i10
  · rw [if_neg z] at uE
    have yo : ∀ x, (x = 8 ∨ 55 ≤ x) → x ≠ 67 → x ≠ 69 → trW (trI I) x = I x := fun x a b c => by
      unfold trW
      rw [up2_o _ _ _ (by omega), up2_o _ _ _ c, up2_o _ _ _ c, up2_o _ _ _ b, sw_out (by omega) (by omega) (by omega) (by omega), trI_o I (by omega)]
    have y0 : ∀ k, k ≠ 14 → trW (trI I) 0 k = I 0 k := fun k a => by
      unfold trW
      rw [up2_k _ _ _ a, up2_o _ _ _ (by decide), up2_o _ _ _ (by decide), up2_o _ _ _ (by decide), sw_out (by omega) (by omega) (by omega) (by omega), trI_o I (by omega)]
    have y014 : trW (trI I) 0 14 = 0 := up2_s _ _ _ _
    have y7 : trW (trI I) 7 1 = 0 := by
      unfold trW
      rw [up2_o _ _ _ (by decide), up2_o _ _ _ (by decide), up2_o _ _ _ (by decide), up2_o _ _ _ (by decide), sw_out (by omega) (by omega) (by omega) (by omega)]
      exact trI_7 I
    have y67 : trW (trI I) 67 1 = I 67 1 ∧ trW (trI I) 67 2 = 0 := by
      unfold trW
      constructor
      · rw [up2_o _ _ _ (by decide), up2_o _ _ _ (by decide), up2_o _ _ _ (by decide), up2_k _ _ _ (by decide), sw_out (by omega) (by omega) (by omega) (by omega), trI_o I (by omega)]
      · rw [up2_o _ _ _ (by decide), up2_o _ _ _ (by decide), up2_o _ _ _ (by decide), up2_s]
    have y69 : trW (trI I) 69 1 = 0 ∧ trW (trI I) 69 2 = -1 := by
      unfold trW
      constructor
      · rw [up2_o _ _ _ (by decide), up2_k _ _ _ (by decide), up2_s]
      · rw [up2_o _ _ _ (by decide), up2_s]
    have yw : ∀ x, 1 ≤ x → x < 55 → trW (trI I) x = h_X8_startWith (trI I) 10 1 17 29 31 x := fun x a b => by
      unfold trW
      rw [up2_o _ _ _ (by omega), up2_o _ _ _ (by omega), up2_o _ _ _ (by omega), up2_o _ _ _ (by omega)]
    generalize trW (trI I) = Y at uE yo y0 y014 y7 y67 y69 yw
    have t : RTap (tsX Y n) (vw 2 I 7) n := ⟨t1, tsX_3 Y n, fun k hk => by
      rw [tsX_o _ _ (by decide), yo 189 (by omega) (by decide) (by decide), t3 k hk]
      rfl⟩
    rcases trees_both rl (by rw [yo 188 (by omega) (by decide) (by decide)]; exact t2) t (vw 1 I 9) (vw 6 I 10) with ⟨_, _, _, _, _, _, _, q⟩ | ⟨p, g, N, V, S, e, _, V1, hD⟩
    · rw [← tq] at q
      exact absurd q z
    · have s8 := h.2.2.2.2.2.2.2.2.1
      have N40 := hD.1.2.1
      have fk : ∀ k, k ≠ 1 → k ≠ 2 → k ≠ 3 → k ≠ 4 → k ≠ 5 → k ≠ 6 → k ≠ 7 → k ≠ 10 → k ≠ 12 → fF (vF (tsX Y n) p 0 g (nI N) (nI V) S) 188 k = I 188 k := fun k k1 k2 k3 k4 k5 k6 k7 k10 k12 => by
        rw [fF_k _ k6 k7, vF_k _ _ _ _ _ _ _ k2 k4 k5 k10 k12, tsX_k _ _ k1 k3, yo 188 (by omega) (by decide) (by decide)]
      have f1 : fF (vF (tsX Y n) p 0 g (nI N) (nI V) S) 188 1 = 0 := by
        rw [fF_k _ (by decide) (by decide), vF_k _ _ _ _ _ _ _ (by decide) (by decide) (by decide) (by decide) (by decide), tsX_1]
      have f10 : fF (vF (tsX Y n) p 0 g (nI N) (nI V) S) 188 10 = nI N := by rw [fF_k _ (by decide) (by decide), vF_10]
      have f12 : fF (vF (tsX Y n) p 0 g (nI N) (nI V) S) 188 12 = nI V := by rw [fF_k _ (by decide) (by decide), vF_12]
      have f191 : fF (vF (tsX Y n) p 0 g (nI N) (nI V) S) 191 = S := by rw [fF_o _ (by decide), vF_S]
      have fo : ∀ x, x ≠ 188 → x ≠ 191 → fF (vF (tsX Y n) p 0 g (nI N) (nI V) S) x = Y x := fun x a b => by rw [fF_o _ a, vF_o _ _ _ _ _ _ _ a b, tsX_o _ _ a]
      generalize fF (vF (tsX Y n) p 0 g (nI N) (nI V) S) = F at e fk f1 f10 f12 f191 fo
      obtain ⟨Z, w1, w2, w3, w4, w5, w6, w7, w8, w9, w10⟩ := w_stands rl F f10 N40 f12 (by rw [fk 21 (by decide) (by decide) (by decide) (by decide) (by decide) (by decide) (by decide) (by decide) (by decide)]; exact s8.2)
      rw [f191] at w2
      have eZ : Stnd (F, J) = some (some (mI (nI V)), (Z, J)) := by
        unfold Stnd
        rw [w1]
        simp only [Option.bind_some, asV_n, rl.fi, w5]
      have hD' : DI (vw 6 (trI I) 10) S N V := by
        rw [trI_d]
        exact hD
      have uv6 : Y 1 6 = nI V := by
        have uc := (UEq.copy (vw 6 (trI I) 10) (vw 6 (trI I) 1)).2.1
        rw [yw 1 (by decide) (by decide)]
        have : h_X8_startWith (trI I) 10 1 17 29 31 1 6 = gU_X2_copyFrom (vw 6 (trI I) 10) (vw 6 (trI I) 1) 0 6 := by
          rfl
        rw [this, uc]
        exact hD'.1.2.2.1
      rw [uv6] at uE
      refine ⟨nI V, _, Z, J, uE, e.trans eZ, ?_⟩
      have zo : ∀ x, x ≠ 188 → x ≠ 191 → x ≠ 194 → Z x = Y x := fun x a b c => by rw [w3 x a c, fo x a b]
      have o : ∀ x, (x = 8 ∨ 55 ≤ x) → x ≠ 67 → x ≠ 69 → x ≠ 188 → x ≠ 191 → x ≠ 194 → Z x = I x := fun x a b c d e f => by rw [zo x d e f, yo x a b c]
      have zk : ∀ k, k = 20 ∨ k = 21 ∨ k = 25 ∨ k = 29 ∨ k = 31 → Z 188 k = I 188 k := fun k hk => by rw [w4 k (by omega) (by omega) (by omega) (by omega) (by omega) (by omega), fk k (by omega) (by omega) (by omega) (by omega) (by omega) (by omega) (by omega) (by omega) (by omega)]
      have wd : Wd Z 1 17 29 31 (Z 194) V (T + 10001) := by
        refine (Wd.new (I := trI I) (n2 := 10) (n := 1) (m := 17) (g := 29) (w := 31) hD' V1 w2 (by decide) (by decide) (by decide) (show 1 ≤ T + 10001 by omega) h30).fr (fun x a b => ?_) (fun x a b => ?_) ?_ (fun x a b => ?_) (fun _ _ => rfl)
        · rw [zo x (by omega) (by omega) (by omega), yw x (by omega) (by omega)]
        · rw [zo x (by omega) (by omega) (by omega), yw x (by omega) (by omega)]
        · rw [zo 29 (by decide) (by decide) (by decide), yw 29 (by decide) (by decide)]
        · rw [zo x (by omega) (by omega) (by omega), yw x (by omega) (by omega)]
      have hh : ∃ ad q, (I 67 1 = nI q ∧ q < 20) ∧ I 188 29 = nI q ∧ KSl J ad ∧ Rm J ad B0 := by
        rcases h.2.2.2.2.2.2.2.2.2 with ⟨vol, ad, q, r, _, _, _, hs⟩ | ⟨_, _, _, _, ad, q, hs⟩
        · exact ⟨ad, q, ⟨hs.1.1, hs.1.2.1⟩, hs.2.1.2, hs.2.2.1, hs.2.2.2.1⟩
        · exact ⟨ad, q, ⟨hs.1.1, hs.1.2.1⟩, hs.2.1.2, hs.2.2.1, hs.2.2.2.1⟩
      obtain ⟨ad, q, ⟨g1, g2⟩, g3, g4, g5⟩ := hh
      refine ⟨h.1, S1.emp (by rw [zo 7 (by decide) (by decide) (by decide)]; exact y7) (by rw [w4 1 (by decide) (by decide) (by decide) (by decide) (by decide) (by decide)]; exact f1), trivial, h.2.2.2.1.fr (o _ (by decide) (by decide) (by decide) (by decide) (by decide) (by decide)) (o _ (by decide) (by decide) (by decide) (by decide) (by decide) (by decide)), h.2.2.2.2.1.fr (by rw [zo 0 (by decide) (by decide) (by decide), y0 11 (by decide)]) (o _ (by decide) (by decide) (by decide) (by decide) (by decide) (by decide)) (zk _ (by decide)) (o _ (by decide) (by decide) (by decide) (by decide) (by decide) (by decide)), ⟨by rw [zo 0 (by decide) (by decide) (by decide), y014, w8], fun w => absurd (by rw [zo 0 (by decide) (by decide) (by decide), y014]; rfl) w⟩, h.2.2.2.2.2.2.1, ⟨0, by rw [zo 69 (by decide) (by decide) (by decide)]; exact y69.1, by decide, w9, by rw [zo 69 (by decide) (by decide) (by decide), y69.2, w10], fun p hp => by omega⟩, s8.fr (zk _ (by decide)) (zk _ (by decide)), Or.inl ⟨V, ad, q, 0, w5, by rw [w6]; decide, wd, ⟨⟨by rw [zo 67 (by decide) (by decide) (by decide), y67.1]; exact g1, g2, by rw [zo 67 (by decide) (by decide) (by decide)]; exact y67.2, by decide⟩, ⟨w7, by rw [zk 29 (by decide)]; exact g3⟩, g4, g5, fun j hj => by omega⟩⟩⟩
end

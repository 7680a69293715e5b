/-! TREES read, on both sides. -/
def fF (Y : MI) : MI := up2 (up2 Y 188 6 (Y 188 4)) 188 7 (Y 188 5)
noncomputable def T55 (s : MH) : Option MO := Ev T_X10_trees 55 [some (mR (some 188))] [] s
/-- how the reference goes on where nothing was wrong -/
noncomputable def Stnd (s : MH) : Option MO := (M_X10_stands [mR (some 188)] s).bind fun u9 => (asV u9.1).bind fun _ => (fI u9.2 10 188 11).bind fun v10 => some (some (mI v10), u9.2)
theorem T55_bad {J : MJ} (h : RefL J) (I : MI) (p b g m v : Int32) (S : RowV) (hb : ¬ b = 0) : T55 (vF I p b g m v S, J) = some (some (mI (-1)), (rfR (fF (vF I p b g m v S)) 1, J)) := by
  unfold T55
  rw [E_X10_trees_55]
  have k4 : ∀ (Y : MI) (x y : Int32), up2 (up2 Y 188 6 x) 188 7 y 188 4 = Y 188 4 := fun Y x y => by simp [up2]
  have k5 : ∀ (Y : MI) (x : Int32), up2 Y 188 6 x 188 5 = Y 188 5 := fun Y x => by simp [up2]
  simp only [h.fi, vF_4, Option.bind_some, if_neg hb, h.wi, k4, k5, h.kt, if_true, w_refuses h _ (show (1 : Int32) = nI 1 from rfl) (by decide), asI_I]
  unfold fF
  rw [vF_4]
theorem T55_end {I : MI} {Q : RouV} {T : Nat} (t : RTap I Q T) {J : MJ} (h : RefL J) (g m v : Int32) (S : RowV) {p s : Nat} (hs : Sk Q T p s) (hc : q_X5_at Q (nI s) = -1) : T55 (vF I (nI p) 0 g m v S, J) = Stnd (fF (vF I (nI s) 0 g m v S), J) := by
  unfold T55 Stnd
  rw [E_X10_trees_55]
  have k4 : ∀ (Y : MI) (x y : Int32), up2 (up2 Y 188 6 x) 188 7 y 188 4 = Y 188 4 := fun Y x y => by simp [up2]
  have k5 : ∀ (Y : MI) (x : Int32), up2 Y 188 6 x 188 5 = Y 188 5 := fun Y x => by simp [up2]
  simp only [h.fi, vF_4, Option.bind_some, if_true, h.kt, w_look0 t h 0 g m v S hs, asI_I, hc, h.wi, k4, k5]
  unfold fF
  rw [vF_4]
/-- a VOLUME begins -/
theorem T55_vol {I : MI} {Q : RouV} {T : Nat} (t : RTap I Q T) {J : MJ} (h : RefL J) (g m : Int32) (S : RowV) {p s v : Nat} (hs : Sk Q T p s) (hc : ¬ q_X5_at Q (nI s) = -1) (v3 : v < 3) : T55 (vF I (nI p) 0 g m (nI v) S, J) = (M_X10_volumeTold [mR (some 188), mI (nI s)] (vF I (nI s) 0 g m (nI v) S, J)).bind fun u19 => (asV u19.1).bind fun _ => T55 u19.2 := by
  unfold T55
  rw [E_X10_trees_55]
  simp only [h.fi, vF_4, vF_12, vF_2, Option.bind_some, if_true, h.kt, w_look0 t h 0 g m (nI v) S hs, asI_I, if_neg hc, if_neg (show ¬ nI v = 3 from fun z => absurd ((nI_eq (a := v) (b := 3) (by omega) (by decide)).mp z) (by omega))]
theorem T55_vol3 {I : MI} {Q : RouV} {T : Nat} (t : RTap I Q T) {J : MJ} (h : RefL J) (g m : Int32) (S : RowV) {p s : Nat} (hs : Sk Q T p s) (hc : ¬ q_X5_at Q (nI s) = -1) : ∃ Y : MI, (Y = vF I (nI s) 5 (nI s) m (nI 3) S) ∧ T55 (vF I (nI p) 0 g m (nI 3) S, J) = some (some (mI (-1)), (rfR (fF Y) 1, J)) := by
  refine ⟨_, rfl, ?_⟩
  have bad := T55_bad h I (nI s) 5 (nI s) m (nI 3) S (by decide)
  have v13 := V13_bad h I (nI s) 5 (nI s) m (nI 3) S (by decide) (-1) 0 (-1)
  unfold V13 at v13
  unfold T55 at bad ⊢
  rw [E_X10_trees_55]
  simp only [h.fi, vF_4, vF_12, vF_2, Option.bind_some, if_true, h.kt, w_look0 t h 0 g m (nI 3) S hs, asI_I, if_neg hc, if_pos (show nI 3 = 3 from rfl), w_fail0 h, asV_n, E_X10_volumeTold, w_drafts_bad h I _ 5 _ _ _ _ (show ¬ (5 : Int32) = 0 by decide), v13]
  exact bad
theorem vol_root {J : MJ} (h : RefL J) (I : MI) (p g v : Int32) (S : RowV) {n : Nat} (n40 : n < 40) (x : Int32) : M_X10_volumeTold [mR (some 188), mI x] (vF I p 0 g (nI n) v S, J) = V13 (nI n) (nI 0) (-1) (vF I p 0 g (nI (n + 1)) v (dS S n v 1 (-1) 0), J) := by
  unfold V13
  rw [E_X10_volumeTold]
  simp only [h.kt, if_true, w_drafts_root h I p g v S n40 x, Option.bind_some, asI_I]
  rfl
theorem vol_full {J : MJ} (h : RefL J) (I : MI) (p g v : Int32) (S : RowV) (x : Int32) : M_X10_volumeTold [mR (some 188), mI x] (vF I p 0 g (nI 40) v S, J) = some (none, (vF I p 5 x (nI 40) v S, J)) := by
  have v13 := V13_bad h I p 5 x (nI 40) v S (by decide) (-1) 0 (-1)
  unfold V13 at v13
  rw [E_X10_volumeTold]
  simp only [h.kt, if_true, w_drafts_full h I p g v S, Option.bind_some, asI_I, v13]
/-- how TREES end -/
def Fin55 (I : MI) (J : MJ) (L : Int32 × OneV × NodV) (R : Option MO) : Prop := (∃ p b g m v S, R = some (some (mI (-1)), (rfR (fF (vF I p b g m v S)) 1, J)) ∧ L.1 = 0) ∨ ∃ p g N V S, R = Stnd (fF (vF I p 0 g (nI N) (nI V) S), J) ∧ L.1 = 1 ∧ 1 ≤ V ∧ DI L.2.2 S N V
theorem out_fail {E : OneV} {U : NodV} {c : Int32} {n v : Nat} (hn : U 0 5 = nI n) (hv : U 0 6 = nI v) (n4 : n ≤ 40) (hv3 : v ≤ 3) (hc : ¬ c = -1) (h : v = 3 ∨ (¬ c = 59 ∧ q_X9_isLetter c = 0) ∨ n = 40) : ∃ x, ¬ x = 0 ∧ q_X3_readOutside E U c = 0 ∧ gE_X3_readOutside E U c = gE_X3_fail E x (E 0 3) := by
  unfold q_X3_readOutside gE_X3_readOutside
  simp only [if_neg hc, hn, hv]
  by_cases z : v = 3
  · subst z
    simp only [if_neg (show ¬ nI 3 < 3 by decide)]
    exact ⟨5, by decide, rfl, rfl⟩
  · simp only [if_pos (show nI v < 3 from nI_lt (b := 3) (by omega) (by decide))]
    by_cases c59 : c = 59
    · have n40 : n = 40 := by
        rcases h with y | y | y
        · exact absurd y z
        · exact absurd c59 y.1
        · exact y
      subst n40
      simp only [if_pos c59, if_pos (show (40 : Int32) ≤ nI 40 by decide)]
      exact ⟨5, by decide, rfl, rfl⟩
    · simp only [if_neg c59]
      by_cases l : q_X9_isLetter c = 0
      · simp only [if_pos l]
        exact ⟨1, by decide, rfl, rfl⟩
      · have n40 : n = 40 := by
          rcases h with y | y | y
          · exact absurd y z
          · exact absurd y.2 l
          · exact y
        subst n40
        simp only [if_neg l, if_pos (show (40 : Int32) ≤ nI 40 by decide)]
        exact ⟨5, by decide, rfl, rfl⟩
theorem out_vol {E : OneV} {U : NodV} {S : RowV} {c : Int32} {n v : Nat} (hD : DI U S n v) (n4 : n < 40) (hv3 : v < 3) (hc : ¬ c = -1) (h : c = 59 ∨ q_X9_isLetter c = 1) : q_X3_readOutside E U c = 1 ∧ gE_X3_readOutside E U c = uv (uv E 0 5 (nI n)) 0 6 1 ∧ gU_X3_readOutside E U c = gU_X2_addVolume U := by
  obtain ⟨a1, _, a3, _, _⟩ := hD.vol n4 hv3
  have b5 := hD.1.1
  have b6 := hD.1.2.2.1
  unfold q_X3_readOutside gE_X3_readOutside gU_X3_readOutside
  simp only [if_neg hc, b5, b6, a1, a3, if_neg i10, if_pos (show nI v < 3 from nI_lt (b := 3) hv3 (by decide)), if_neg (show ¬ (40 : Int32) ≤ nI n from nI_ge (b := 40) n4 (by decide))]
  by_cases c59 : c = 59
  · simp only [if_pos c59]
    exact ⟨trivial, trivial, trivial⟩
  · have l := h.resolve_left c59
    simp only [if_neg c59, l, if_neg i10]
    exact ⟨trivial, trivial, trivial⟩
theorem trees_out {I : MI} {Q : RouV} {T : Nat} (t : RTap I Q T) {J : MJ} (h : RefL J) : ∀ (r p : Nat), T - p ≤ r → p ≤ T → ∀ (nn k : Nat) (E : OneV) (U : NodV) (S : RowV) (n v : Nat) (g : Int32), 2 * (T - p) + 1 ≤ nn → EO E p → DI U S n v → (1 ≤ v ∨ ∃ s, Sk Q T p s ∧ s < T) → Fin55 I J (RTl Q nn k 1 E U) (T55 (vF I (nI p) 0 g (nI n) (nI v) S, J)) := by
  have T4 := t.1.1
  intro r
  induction r with
  | zero =>
    intro p hr hp nn k E U S n v g hnn hE hD hx
    obtain ⟨nn, rfl⟩ : ∃ q, nn = q + 1 := ⟨nn - 1, by omega⟩
    obtain ⟨e1, e3, e4, e6⟩ := hE
    have pT : p = T := by omega
    have hs : Sk Q T p p := ⟨Nat.le_refl _, hp, fun k a b => by omega, Or.inl pT⟩
    have c : q_X5_at Q (nI p) = -1 := t.1.out (by omega) (by omega)
    have v1 : 1 ≤ v := by
      rcases hx with y | ⟨s, y, z⟩
      · exact y
      · have := y.1; omega
    have b6 := hD.1.2.2.1
    have b3 := hD.1.2.2.2
    have v0 : ¬ U 0 6 = 0 := by rw [b6]; exact fun z => absurd ((nI_eq (b := 0) (by omega) (by decide)).mp z) (by omega)
    refine Or.inr ⟨nI p, g, n, v, S, T55_end t h g (nI n) (nI v) S hs c, ?_⟩
    have q1 : q_X3_readOutside (uv E 0 3 (nI p)) U (-1) = 0 := by
      unfold q_X3_readOutside
      rw [if_pos rfl, if_neg v0]
    have q2 : gE_X3_readOutside (uv E 0 3 (nI p)) U (-1) = uv E 0 3 (nI p) := by
      unfold gE_X3_readOutside
      rw [if_pos rfl, if_neg v0]
    have q3 : gU_X3_readOutside (uv E 0 3 (nI p)) U (-1) = U := by
      unfold gU_X3_readOutside
      rw [if_pos rfl, if_neg v0]
    rw [lp_out t.1 hs nn k E U e3 e6, c, q1, q2, q3, lp_0, uv_n _ _ _ _ _ _ (by decide), if_pos e1]
    exact ⟨rfl, v1, hD⟩
  | succ r ih =>
    intro p hr hp nn k E U S n v g hnn hE hD hx
    obtain ⟨nn, rfl⟩ : ∃ q, nn = q + 1 := ⟨nn - 1, by omega⟩
    obtain ⟨e1, e3, e4, e6⟩ := hE
    obtain ⟨s, hs⟩ := Sk.ex Q hp
    have s1 := hs.1
    have s2 := hs.2.1
    have lp := lp_out t.1 hs nn k E U e3 e6
    have b5 := hD.1.1
    have b6 := hD.1.2.2.1
    have b3 := hD.1.2.2.2
    have n4 := hD.1.2.1
    by_cases sT : s = T
    · have c : q_X5_at Q (nI s) = -1 := t.1.out (by omega) (by omega)
      have v1 : 1 ≤ v := by
        rcases hx with y | ⟨s', y, z⟩
        · exact y
        · rcases Nat.lt_or_ge s' s with w | w
          · exact absurd (hs.2.2.1 s' y.1 w) (y.2.2.2.resolve_left (by omega))
          · omega
      have v0 : ¬ U 0 6 = 0 := by rw [b6]; exact fun z => absurd ((nI_eq (b := 0) (by omega) (by decide)).mp z) (by omega)
      refine Or.inr ⟨nI s, g, n, v, S, T55_end t h g (nI n) (nI v) S hs c, ?_⟩
      have q1 : q_X3_readOutside (uv E 0 3 (nI s)) U (-1) = 0 := by
        unfold q_X3_readOutside
        rw [if_pos rfl, if_neg v0]
      have q2 : gE_X3_readOutside (uv E 0 3 (nI s)) U (-1) = uv E 0 3 (nI s) := by
        unfold gE_X3_readOutside
        rw [if_pos rfl, if_neg v0]
      have q3 : gU_X3_readOutside (uv E 0 3 (nI s)) U (-1) = U := by
        unfold gU_X3_readOutside
        rw [if_pos rfl, if_neg v0]
      rw [lp, c, q1, q2, q3, lp_0, uv_n _ _ _ _ _ _ (by decide), if_pos e1]
      exact ⟨rfl, v1, hD⟩
    · clear hx
      have lt : s < T := by omega
      have cin : q_X5_at Q (nI s) = Q 1 s := t.1.in lt
      have hc : ¬ q_X5_at Q (nI s) = -1 := by
        obtain ⟨b, b1, b2⟩ := t.1.2.2 s lt
        rw [cin, b2]
        exact nI_m1 (by omega)
      have fl : (v = 3 ∨ (¬ q_X5_at Q (nI s) = 59 ∧ q_X9_isLetter (q_X5_at Q (nI s)) = 0) ∨ n = 40) → (RTl Q (nn + 1) k 1 E U).1 = 0 := fun z => by
        obtain ⟨x, x0, q1, q2⟩ := out_fail (E := uv E 0 3 (nI s)) b5 b6 n4 b3 hc z
        rw [lp, q1, q2]
        exact lp_fail _ _ _ _ _ _ _ x0
      by_cases v3 : v = 3
      · subst v3
        obtain ⟨Y, rfl, z⟩ := T55_vol3 t h g (nI n) S hs hc
        exact Or.inl ⟨_, _, _, _, _, _, z, fl (Or.inl rfl)⟩
      · have v3' : v < 3 := by omega
        have st := T55_vol t h g (nI n) S hs hc v3'
        by_cases n40 : n = 40
        · subst n40
          rw [vol_full h] at st
          simp only [Option.bind_some, asV_n] at st
          rw [T55_bad h I _ 5 _ _ _ _ (by decide)] at st
          exact Or.inl ⟨_, _, _, _, _, _, st, fl (Or.inr (Or.inr rfl))⟩
        · have n40' : n < 40 := by omega
          rw [vol_root h I _ g (nI v) S n40'] at st
          obtain ⟨_, vD, _, v4, v5⟩ := hD.vol n40' v3'
          by_cases ok : q_X5_at Q (nI s) = 59 ∨ q_X9_isLetter (q_X5_at Q (nI s)) = 1
          · obtain ⟨q1, q2, q3⟩ := out_vol (E := uv E 0 3 (nI s)) hD n40' v3' hc ok
            rw [q1, q2, q3] at lp
            have := vol_in t h (T - s) s (Nat.le_refl _) s2 nn (k + 1) (uv (uv (uv E 0 3 (nI s)) 0 5 (nI n)) 0 6 1) (gU_X2_addVolume U) (dS S n (nI v) 1 (-1) 0) (n + 1) v 0 n s g (-1) (by omega) (by omega) ⟨by simp [uv]; exact e1, by simp [uv], by simp [uv]; exact e4, by simp [uv], by simp [uv, bz]⟩ vD (by omega) v4 v5 trivial (by omega) (Nat.le_refl _) (fun k a b => by omega) (Or.inl rfl)
            obtain ⟨p', b, g', n', v', S', z1, z2⟩ := this
            rw [z1] at st
            simp only [Option.bind_some, asV_n] at st
            rcases z2 with ⟨hb, hL⟩ | ⟨P, N, nn', k', E', U', y1, y2, y3, y4, y5, y6, y7, y8, y9, y10⟩
            · rw [T55_bad h I _ b _ _ _ _ hb] at st
              exact Or.inl ⟨_, _, _, _, _, _, st, by rw [lp]; exact hL⟩
            · subst y1 y2 y3 y4
              have := ih P (by omega) y6 nn' k' E' U' S' N (v + 1) g' y7 y9 y10 (Or.inl (by omega))
              rw [st, lp, y8]
              exact this
          · have nl : q_X9_isLetter (q_X5_at Q (nI s)) = 0 := by
              rw [cin] at ok ⊢
              rcases t.1.lt lt with ⟨y, _⟩ | ⟨y, _⟩
              · exact absurd (Or.inr y) ok
              · exact y
            have n59 : ¬ q_X5_at Q (nI s) = 59 := fun z => ok (Or.inl z)
            rw [V13_no t h g (nI (n + 1)) (nI v) _ hs.self (nI n) (nI 0) (-1) nl (fun _ => rfl) (fun _ => by decide) (fun z => absurd z n59)] at st
            simp only [Option.bind_some, asV_n] at st
            rw [T55_bad h I _ 1 _ _ _ _ i10] at st
            exact Or.inl ⟨_, _, _, _, _, _, st, fl (Or.inr (Or.inl ⟨n59, nl⟩))⟩

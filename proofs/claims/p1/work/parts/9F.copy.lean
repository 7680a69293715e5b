/-! A world copied. -/
def wks (I : MI) (w : Nat) : WkV := fun k => (vw 1 I (w + 6 * k), vw 2 I (w + 6 * k + 1), vw 3 I (w + 6 * k + 3))
def Wd (I : MI) (n m g w : Nat) (D : RowV) (vol T : Nat) : Prop := ∃ nn t, Inv (vw 6 I n) (vw 12 I m) (vw 1 I g) (wks I w) nn vol t T (fun _ => 0) ∧ CntI (vw 12 I m) ∧ Rel none (vw 6 I n) (vw 12 I m) (vw 1 I g) (wks I w) D nn
theorem vw_fr {N : Nat} {I I' : MI} {a : Nat} (h : ∀ x, a ≤ x → x < a + N → I' x = I x) : vw N I' a = vw N I a := by
  funext k j
  show I' (a + k.val) j = I (a + k.val) j
  rw [h _ (by omega) (by have := k.isLt; omega)]
theorem wks_fr {I I' : MI} {w : Nat} (h : ∀ x, w ≤ x → x < w + 24 → I' x = I x) {k : Nat} (hk : k < 4) : wks I' w k = wks I w k := by
  unfold wks
  rw [vw_fr (N := 1) (a := w + 6 * k) (fun x a b => h x (by omega) (by omega)), vw_fr (N := 2) (a := w + 6 * k + 1) (fun x a b => h x (by omega) (by omega)), vw_fr (N := 3) (a := w + 6 * k + 3) (fun x a b => h x (by omega) (by omega))]
theorem WkEq.refl (w : OneV × RouV × TriV) : WkEq w w := ⟨rfl, fun _ => ⟨rfl, rfl, rfl, rfl, rfl, fun _ _ _ => rfl, fun _ _ => ⟨rfl, rfl, rfl⟩⟩⟩
theorem UEq.refl (U : NodV) : UEq U U := ⟨rfl, rfl, fun _ _ => ⟨rfl, rfl, rfl, rfl⟩, fun _ _ => rfl⟩
theorem VEq.refl (V : MemV) : VEq V V := ⟨⟨rfl, rfl, rfl, rfl⟩, fun _ _ => ⟨rfl, rfl, rfl, rfl, rfl, rfl, rfl, rfl⟩, fun _ _ => ⟨rfl, rfl⟩⟩
theorem Wd.cg {I I' : MI} {n m g w n' m' g' w' vol T : Nat} {D D' : RowV} (h : Wd I n m g w D vol T) (hU : UEq (vw 6 I' n') (vw 6 I n)) (hV : VEq (vw 12 I' m') (vw 12 I m)) (hH : HEq' (vw 1 I' g') (vw 1 I g)) (hW : ∀ k, k < 4 → (∀ nn t, Inv (vw 6 I n) (vw 12 I m) (vw 1 I g) (wks I w) nn vol t T (fun _ => 0) → WkEq (wks I' w' k) (wks I w k))) (hD : ∀ k, k < 1853 → D' k = D k) : Wd I' n' m' g' w' D' vol T := by
  obtain ⟨nn, t, i, c, r⟩ := h
  exact ⟨nn, t, i.cg hU hV hH (fun k hk => hW k hk nn t i), c.cg hV, r.cg i.N.n60 hU hV hH (fun k hk => hW k hk nn t i) hD⟩
theorem Wd.fr {I I' : MI} {n m g w vol T : Nat} {D D' : RowV} (h : Wd I n m g w D vol T) (hn : ∀ x, n ≤ x → x < n + 6 → I' x = I x) (hm : ∀ x, m ≤ x → x < m + 12 → I' x = I x) (hg : I' g = I g) (hw : ∀ x, w ≤ x → x < w + 24 → I' x = I x) (hD : ∀ k, k < 1853 → D' k = D k) : Wd I' n m g w D' vol T := by
  refine h.cg ?_ ?_ ?_ (fun k hk _ _ _ => ?_) hD
  · rw [vw_fr hn]; exact UEq.refl _
  · rw [vw_fr hm]; exact VEq.refl _
  · intro k hk
    show I' (g + 0) k = I (g + 0) k
    rw [Nat.add_zero, hg]
  · rw [wks_fr hw hk]; exact WkEq.refl _
theorem Wd.T {I : MI} {n m g w vol T T' : Nat} {D : RowV} (h : Wd I n m g w D vol T) (hT : T ≤ T') (h30 : T' ≤ 1000000000) : Wd I n m g w D vol T' := by
  obtain ⟨nn, t, i, c, r⟩ := h
  exact ⟨nn, t, i.T hT h30, c, r⟩
/-- a route copied -/
theorem copy_go {L2 L : Nat} {P2 : RouV} {l : Nat} (hp : P2 0 1 = nI l) (h2 : l ≤ L2) (hL : l ≤ L) (b2 : L2 < 1000) (bL : L < 1000) : ∀ (nn k : Nat) (P : RouV), k + nn = l → P 0 1 = nI k → (∀ j, j < k → P 1 j = P2 1 j) → lp_X4_copyFrom_7 L2 L P2 nn k P 0 1 = nI l ∧ ∀ j, j < l → lp_X4_copyFrom_7 L2 L P2 nn k P 1 j = P2 1 j
  | 0, k, P, hk, h1, hj => by
    have : k = l := by omega
    subst this
    exact ⟨h1, hj⟩
  | nn + 1, k, P, hk, h1, hj => by
    have ev : lp_X4_copyFrom_7 L2 L P2 (nn + 1) k P = lp_X4_copyFrom_7 L2 L P2 nn (k + 1) (gP_X4_push L P (q_X4_stepAt L2 P2 (nI k))) := rfl
    rw [ev, stepAt_k hp (by omega) h2 b2, push_g h1 (by omega) bL]
    exact copy_go hp h2 hL b2 bL nn (k + 1) (uv (uv P 1 k (P2 1 k)) 0 1 (nI (k + 1))) (by omega) (uv_s _ _ _ _) (fun j hj' => by
      rw [uv_k _ _ _ _ _ (by decide), uv_at]
      by_cases z : j = k
      · rw [if_pos z, z]
      · rw [if_neg z]; exact hj j (by omega))
theorem copy_route {L2 L : Nat} {P2 P : RouV} {l : Nat} (hp : P2 0 1 = nI l) (h2 : l ≤ L2) (hL : l ≤ L) (b2 : L2 < 1000) (bL : L < 1000) : gP_X4_copyFrom L2 L P2 P 0 1 = nI l ∧ ∀ j, j < l → gP_X4_copyFrom L2 L P2 P 1 j = P2 1 j := by
  unfold gP_X4_copyFrom o_X4_copyFrom
  rw [hp, ix_nI (by omega)]
  exact copy_go hp h2 hL b2 bL l 0 _ (by omega) (uv_s _ _ _ _) (fun j hj => by omega)
theorem cpx_out (w2 w k : Nat) (I : MI) {x : Nat} (h : x < w + 6 * k ∨ w + 6 * k + 6 ≤ x) : cpw w2 w k I x = I x := by
  unfold cpw
  rw [pt_out (by omega), pt_out (by omega), pt_out (by omega)]
theorem itr_cpw_out (w2 w : Nat) : ∀ (n k : Nat) (I : MI) {x : Nat}, (x < w + 6 * k ∨ w + 6 * (k + n) ≤ x) → itr (cpw w2 w) k n I x = I x
  | 0, k, I, x, _ => rfl
  | n + 1, k, I, x, h => by
    show itr (cpw w2 w) (k + 1) n (cpw w2 w k I) x = I x
    rw [itr_cpw_out w2 w n (k + 1) _ (by omega), cpx_out w2 w k I (by omega)]
theorem itr_cpw_at (w2 w : Nat) (hd : w2 + 24 ≤ w ∨ w + 24 ≤ w2) {j : Nat} (j4 : j < 4) : ∀ (n k : Nat) (I : MI), k ≤ j → j < k + n → k + n ≤ 4 → wks (itr (cpw w2 w) k n I) w j = (gK_X7_copyFrom 12 12 (wks I w2 j).1 (wks I w2 j).2.1 (wks I w2 j).2.2 (wks I w j).1 (wks I w j).2.1 (wks I w j).2.2, gP_X7_copyFrom 12 12 (wks I w2 j).1 (wks I w2 j).2.1 (wks I w2 j).2.2 (wks I w j).1 (wks I w j).2.1 (wks I w j).2.2, gB_X7_copyFrom 12 12 (wks I w2 j).1 (wks I w2 j).2.1 (wks I w2 j).2.2 (wks I w j).1 (wks I w j).2.1 (wks I w j).2.2)
  | 0, k, I, h1, h2, _ => by omega
  | n + 1, k, I, h1, h2, h3 => by
    show wks (itr (cpw w2 w) (k + 1) n (cpw w2 w k I)) w j = _
    rcases Nat.eq_or_lt_of_le h1 with q | q
    · subst q
      have e1 : wks (itr (cpw w2 w) (k + 1) n (cpw w2 w k I)) w k = wks (cpw w2 w k I) w k := by
        have f : ∀ x, x < w + 6 * (k + 1) → itr (cpw w2 w) (k + 1) n (cpw w2 w k I) x = cpw w2 w k I x := fun x hx => itr_cpw_out w2 w n (k + 1) _ (Or.inl hx)
        unfold wks
        rw [vw_fr (N := 1) (fun x a b => f x (by omega)), vw_fr (N := 2) (fun x a b => f x (by omega)), vw_fr (N := 3) (fun x a b => f x (by omega))]
      rw [e1]
      unfold wks cpw
      rw [vw_out (N := 1) _ _ (by omega), vw_out (N := 1) _ _ (by omega), vw_pt, vw_out (N := 2) _ _ (by omega), vw_pt, vw_pt]
    · have ih := itr_cpw_at w2 w hd j4 n (k + 1) (cpw w2 w k I) (by omega) (by omega) (by omega)
      rw [ih]
      have f : ∀ x, (x < w + 6 * k ∨ w + 6 * k + 6 ≤ x) → cpw w2 w k I x = I x := fun x hx => cpx_out w2 w k I hx
      have e1 : wks (cpw w2 w k I) w2 j = wks I w2 j := by
        unfold wks
        rw [vw_fr (N := 1) (fun x a b => f x (by omega)), vw_fr (N := 2) (fun x a b => f x (by omega)), vw_fr (N := 3) (fun x a b => f x (by omega))]
      have e2 : wks (cpw w2 w k I) w j = wks I w j := by
        unfold wks
        rw [vw_fr (N := 1) (fun x a b => f x (by omega)), vw_fr (N := 2) (fun x a b => f x (by omega)), vw_fr (N := 3) (fun x a b => f x (by omega))]
      rw [e1, e2]
theorem WkEq.copy {w2 w : OneV × RouV × TriV} {l : Nat} (hl : ¬ bz (w2.1 0 5) = 0 → ∃ l, w2.2.1 0 1 = nI l ∧ l ≤ 12) : WkEq (gK_X7_copyFrom 12 12 w2.1 w2.2.1 w2.2.2 w.1 w.2.1 w.2.2, gP_X7_copyFrom 12 12 w2.1 w2.2.1 w2.2.2 w.1 w.2.1 w.2.2, gB_X7_copyFrom 12 12 w2.1 w2.2.1 w2.2.2 w.1 w.2.1 w.2.2) w2 := by
  refine ⟨?_, fun q => ?_⟩
  · show bz (gK_X7_copyFrom 12 12 w2.1 w2.2.1 w2.2.2 w.1 w.2.1 w.2.2 0 5) = _
    unfold gK_X7_copyFrom
    simp [uv, bz_bz]
  · obtain ⟨l, l1, l2⟩ := hl q
    have cr := copy_route (P := w.2.1) l1 l2 l2 (by decide) (by decide)
    refine ⟨?_, ?_, ?_, ?_, ?_, fun k h1 h2 => ?_, fun k hk => ?_⟩
    · show gK_X7_copyFrom 12 12 w2.1 w2.2.1 w2.2.2 w.1 w.2.1 w.2.2 0 4 = _
      unfold gK_X7_copyFrom
      simp [uv]
    · show bz (gK_X7_copyFrom 12 12 w2.1 w2.2.1 w2.2.2 w.1 w.2.1 w.2.2 0 6) = _
      unfold gK_X7_copyFrom
      simp [uv, bz_bz]
    · show gK_X7_copyFrom 12 12 w2.1 w2.2.1 w2.2.2 w.1 w.2.1 w.2.2 0 7 = _
      unfold gK_X7_copyFrom
      simp [uv]
    · show gK_X7_copyFrom 12 12 w2.1 w2.2.1 w2.2.2 w.1 w.2.1 w.2.2 0 8 = _
      unfold gK_X7_copyFrom
      simp [uv]
    · rw [l1]
      exact cr.1
    · rw [l1, ix_nI (by omega)] at h2
      exact cr.2 k h2
    · show gB_X7_copyFrom 12 12 w2.1 w2.2.1 w2.2.2 w.1 w.2.1 w.2.2 0 k = _ ∧ gB_X7_copyFrom 12 12 w2.1 w2.2.1 w2.2.2 w.1 w.2.1 w.2.2 1 k = _ ∧ gB_X7_copyFrom 12 12 w2.1 w2.2.1 w2.2.2 w.1 w.2.1 w.2.2 2 k = _
      unfold gB_X7_copyFrom
      simp [cpv, hk]
theorem UEq.copy (U2 U : NodV) : UEq (gU_X2_copyFrom U2 U) U2 := by
  unfold gU_X2_copyFrom
  refine ⟨?_, ?_, fun k hk => ⟨?_, ?_, ?_, ?_⟩, fun v hv => ?_⟩
  · simp [uv]
  · simp [uv]
  · simp [uv, cpv, hk]
  · simp [uv, cpv, hk]
  · simp [uv, cpv, hk]
  · simp [uv, cpv, hk]
  · simp [uv, cpv, hv]
theorem VEq.copy (V2 V : MemV) : VEq (gV_X1_copyFrom V2 V) V2 := by
  unfold gV_X1_copyFrom
  refine ⟨⟨?_, ?_, ?_, ?_⟩, fun k hk => ⟨?_, ?_, ?_, ?_, ?_, ?_, ?_, ?_⟩, fun v hv => ⟨?_, ?_⟩⟩
  · simp [uv]
  · simp [uv]
  · simp [uv]
  · simp [uv]
  · simp [uv, cpv, hk]
  · simp [uv, cpv, hk]
  · simp [uv, cpv, hk]
  · simp [uv, cpv, hk]
  · simp [uv, cpv, hk]
  · simp [uv, cpv, hk]
  · simp [uv, cpv, hk]
  · simp [uv, cpv, hk]
  · simp [uv, cpv, hv]
  · simp [uv, cpv, hv]
theorem copy_out (I : MI) (n2 m2 g2 w2 n m g w : Nat) {x : Nat} (hn : x < n ∨ n + 6 ≤ x) (hm : x < m ∨ m + 12 ≤ x) (hg : x ≠ g) (hw : x < w ∨ w + 24 ≤ x) : h_X8_copyFrom I n2 m2 g2 w2 n m g w x = I x := by
  unfold h_X8_copyFrom
  rw [itr_cpw_out w2 w 4 0 _ (by omega)]
  funext y
  show (if x = g ∧ y < 6 then I g2 y else (pt (pt I n _) m _) x y) = I x y
  rw [if_neg (fun q => hg q.1), pt_out hm, pt_out hn]
/-- a copy of a world is one -/
theorem Wd.copy {I : MI} {n2 m2 g2 w2 n m g w vol T : Nat} {D : RowV} (h : Wd I n2 m2 g2 w2 D vol T) (d1 : n + 6 ≤ m) (d2 : m + 12 ≤ g) (d3 : g < w) (e1 : n2 + 6 ≤ m2) (e2 : m2 + 12 ≤ g2) (e3 : g2 < w2) (ds : w + 24 ≤ n2 ∨ w2 + 24 ≤ n) : Wd (h_X8_copyFrom I n2 m2 g2 w2 n m g w) n m g w D vol T := by
  have o : ∀ x, (x < w ∨ w + 24 ≤ x) → h_X8_copyFrom I n2 m2 g2 w2 n m g w x = fun y => if x = g ∧ y < 6 then I g2 y else (pt (pt I n (gU_X2_copyFrom (vw 6 I n2) (vw 6 I n))) m (gV_X1_copyFrom (vw 12 I m2) (vw 12 I m))) x y := by
    intro x hx
    unfold h_X8_copyFrom
    rw [itr_cpw_out w2 w 4 0 _ (by omega)]
  have eU : vw 6 (h_X8_copyFrom I n2 m2 g2 w2 n m g w) n = gU_X2_copyFrom (vw 6 I n2) (vw 6 I n) := by
    funext k j
    have := k.isLt
    show h_X8_copyFrom I n2 m2 g2 w2 n m g w (n + k.val) j = _
    rw [o _ (by omega)]
    show (if n + k.val = g ∧ j < 6 then _ else _) = _
    rw [if_neg (by omega), pt_out (by omega), pt_in]
  have eV : vw 12 (h_X8_copyFrom I n2 m2 g2 w2 n m g w) m = gV_X1_copyFrom (vw 12 I m2) (vw 12 I m) := by
    funext k j
    have := k.isLt
    show h_X8_copyFrom I n2 m2 g2 w2 n m g w (m + k.val) j = _
    rw [o _ (by omega)]
    show (if m + k.val = g ∧ j < 6 then _ else _) = _
    rw [if_neg (by omega), pt_in]
  refine h.cg ?_ ?_ ?_ (fun k hk nn t i => ?_) (fun _ _ => rfl)
  · rw [eU]; exact UEq.copy _ _
  · rw [eV]; exact VEq.copy _ _
  · intro k hk
    show h_X8_copyFrom I n2 m2 g2 w2 n m g w (g + 0) k = I (g2 + 0) k
    rw [Nat.add_zero, Nat.add_zero, o g (by omega)]
    show (if g = g ∧ k < 6 then _ else _) = _
    rw [if_pos ⟨rfl, hk⟩]
  · have e := itr_cpw_at w2 w (by omega) hk 4 0 (fun x y => if x = g ∧ y < 6 then I g2 y else (pt (pt I n (gU_X2_copyFrom (vw 6 I n2) (vw 6 I n))) m (gV_X1_copyFrom (vw 12 I m2) (vw 12 I m))) x y) (Nat.zero_le _) (by omega) (by omega)
    have f : ∀ x, w2 ≤ x → x < w2 + 24 → (fun x y => if x = g ∧ y < 6 then I g2 y else (pt (pt I n (gU_X2_copyFrom (vw 6 I n2) (vw 6 I n))) m (gV_X1_copyFrom (vw 12 I m2) (vw 12 I m))) x y) x = I x := by
      intro x a b
      funext y
      show (if x = g ∧ y < 6 then _ else _) = _
      rw [if_neg (by omega), pt_out (by omega), pt_out (by omega)]
    have f2 := wks_fr f hk
    unfold h_X8_copyFrom
    rw [e, f2]
    refine WkEq.copy (l := 0) (fun q => ?_)
    obtain ⟨mm, dd, l, r, _, hw⟩ := i.W k hk q
    exact ⟨l, hw.l, hw.l12⟩

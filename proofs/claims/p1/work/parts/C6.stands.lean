/-! New TREES stand: the reference. -/
theorem w_draftedZ {J : MJ} (h : RefL J) (Z : MI) {k f : Nat} {x : Int32} (hx : x = nI f) (hk : 4 * k + f < 240) : M_X10_drafted [mR (some 188), mI (nI k), mI x] (Z, J) = some (some (mI (Z 191 (4 * k + f))), (Z, J)) := by
  subst hx
  rw [E_X10_drafted, i4]
  simp only [h.f9, Option.bind_some, ldx h.s9 hk (by decide) rfl]
/-- what the row holds -/
def FrD (D : RowV) (N : Nat) (S : RowV) : Prop := (D 0 = 1 ∧ D 1 = 0 ∧ D 2 = 0 ∧ D 3 = 40 ∧ D 4 = nI N ∧ D 5 = 0 ∧ D 6 = -1 ∧ D 7 = -1) ∧ (∀ v, v < 3 → D (8 + v) = -1) ∧ (∀ k, k < 6 → D (11 + k) = -1) ∧ (∀ k, k < 4 → D (17 + 96 * k + 0) = 0) ∧ (∀ k, k < N → D (401 + 5 * k + 0) = S (4 * k) ∧ D (401 + 5 * k + 1) = S (4 * k + 1) ∧ D (401 + 5 * k + 2) = S (4 * k + 2) ∧ D (401 + 5 * k + 3) = S (4 * k + 3) ∧ D (401 + 5 * k + 4) = 1) ∧ (∀ e, e < 128 → D (701 + 9 * e + 0) = if e = 0 then 1 else 0) ∧ (D 702 = -1 ∧ D 703 = 0 ∧ D 704 = 0 ∧ D 705 = 0 ∧ D 706 = 0 ∧ D 707 = 0 ∧ D 708 = -1 ∧ D 709 = 0)
def nd5 (S : RowV) (k : Nat) (A : RowV) : RowV := sD (sD (sD (sD (sD A (401 + 5 * k + 0) (S (4 * k + 0))) (401 + 5 * k + 1) (S (4 * k + 1))) (401 + 5 * k + 2) (S (4 * k + 2))) (401 + 5 * k + 3) (S (4 * k + 3))) (401 + 5 * k + 4) 1
theorem nd5_o (S : RowV) (k : Nat) (A : RowV) {j : Nat} (h : j < 401 + 5 * k ∨ 401 + 5 * k + 5 ≤ j) : nd5 S k A j = A j := by
  unfold nd5
  rw [sD_n _ _ (by omega), sD_n _ _ (by omega), sD_n _ _ (by omega), sD_n _ _ (by omega), sD_n _ _ (by omega)]
theorem itr_nd5_o (S : RowV) : ∀ (n k : Nat) (A : RowV) {j : Nat}, (j < 401 + 5 * k ∨ 401 + 5 * (k + n) ≤ j) → itr (nd5 S) k n A j = A j
  | 0, k, A, j, _ => rfl
  | n + 1, k, A, j, h => by
    show itr (nd5 S) (k + 1) n (nd5 S k A) j = A j
    rw [itr_nd5_o S n (k + 1) _ (by omega), nd5_o S k A (by omega)]
theorem itr_nd5 (S : RowV) : ∀ (n k : Nat) (A : RowV) (m : Nat), k ≤ m → m < k + n → itr (nd5 S) k n A (401 + 5 * m + 0) = S (4 * m + 0) ∧ itr (nd5 S) k n A (401 + 5 * m + 1) = S (4 * m + 1) ∧ itr (nd5 S) k n A (401 + 5 * m + 2) = S (4 * m + 2) ∧ itr (nd5 S) k n A (401 + 5 * m + 3) = S (4 * m + 3) ∧ itr (nd5 S) k n A (401 + 5 * m + 4) = 1
  | 0, k, A, m, h1, h2 => by omega
  | n + 1, k, A, m, h1, h2 => by
    have e : itr (nd5 S) k (n + 1) A = itr (nd5 S) (k + 1) n (nd5 S k A) := rfl
    rw [e]
    rcases Nat.eq_or_lt_of_le h1 with z | z
    · subst z
      rw [itr_nd5_o S n (k + 1) _ (by omega), itr_nd5_o S n (k + 1) _ (by omega), itr_nd5_o S n (k + 1) _ (by omega), itr_nd5_o S n (k + 1) _ (by omega), itr_nd5_o S n (k + 1) _ (by omega)]
      unfold nd5
      refine ⟨?_, ?_, ?_, ?_, ?_⟩
      · rw [sD_n _ _ (by omega), sD_n _ _ (by omega), sD_n _ _ (by omega), sD_n _ _ (by omega), sD_s]
      · rw [sD_n _ _ (by omega), sD_n _ _ (by omega), sD_n _ _ (by omega), sD_s]
      · rw [sD_n _ _ (by omega), sD_n _ _ (by omega), sD_s]
      · rw [sD_n _ _ (by omega), sD_s]
      · rw [sD_s]
    · exact itr_nd5 S n (k + 1) _ m (by omega) (by omega)
def vr3 (v : Nat) (A : RowV) : RowV := sD (sD A (5 + v) (-1)) (8 + v) (-1)
theorem st_zero {J : MJ} (h : RefL J) (Y : MI) (A G : RowV) (c : Int32) : Ev T_X10_stands 15 [some (mR (some 188)), some (mI 0), none] [] (rF Y A G c, J) = Ev T_X10_stands 15 [some (mR (some 188)), some (mI (nI 1853)), none] [] (rF Y (itr (fun k A => sD A (0 + k) ((fun _ => 0) k)) 0 1853 A) G c, J) := by
  refine loop_all (fun k A => Ev T_X10_stands 15 [some (mR (some 188)), some (mI (nI k)), none] [] (rF Y A G c, J)) (fun k A => sD A (0 + k) ((fun _ => 0) k)) 1853 A (fun k A hk => ?_)
  try dsimp only
  rw [E_X10_stands_15, if_neg (show ¬ (1853 : Int32) ≤ nI k from nI_ge (b := 1853) hk (by decide))]
  simp only [h.f18, Option.bind_some]
  rw [h.stD _ 0 rfl hk, Option.bind_some, rF_sD, nI_1, Nat.zero_add]
theorem st_vol {J : MJ} (h : RefL J) (Y : MI) (A G : RowV) (c : Int32) : Ev T_X10_stands 55 [some (mR (some 188)), some (mI 0), none] [] (rF Y A G c, J) = Ev T_X10_stands 55 [some (mR (some 188)), some (mI (nI 3)), none] [] (rF Y (itr vr3 0 3 A) G c, J) := by
  refine loop_all (fun k A => Ev T_X10_stands 55 [some (mR (some 188)), some (mI (nI k)), none] [] (rF Y A G c, J)) vr3 3 A (fun k A hk => ?_)
  try dsimp only
  rw [E_X10_stands_55, if_neg (show ¬ (3 : Int32) ≤ nI k from nI_ge (b := 3) hk (by decide))]
  simp only [h.f18, Option.bind_some]
  rw [h.stD _ (-1) (show (5 : Int32) + nI k = nI (5 + k) from nI_add 5 k) (by omega), Option.bind_some, rF_sD]
  simp only [h.f18, Option.bind_some]
  rw [h.stD _ (-1) (show (8 : Int32) + nI k = nI (8 + k) from nI_add 8 k) (by omega), Option.bind_some, rF_sD, nI_1]
  rfl
theorem st_han {J : MJ} (h : RefL J) (Y : MI) (A G : RowV) (c : Int32) : Ev T_X10_stands 87 [some (mR (some 188)), some (mI 0), none] [] (rF Y A G c, J) = Ev T_X10_stands 87 [some (mR (some 188)), some (mI (nI 6)), none] [] (rF Y (itr (fun k A => sD A (11 + k) ((fun _ => -1) k)) 0 6 A) G c, J) := by
  refine loop_all (fun k A => Ev T_X10_stands 87 [some (mR (some 188)), some (mI (nI k)), none] [] (rF Y A G c, J)) (fun k A => sD A (11 + k) ((fun _ => -1) k)) 6 A (fun k A hk => ?_)
  try dsimp only
  rw [E_X10_stands_87, if_neg (show ¬ (6 : Int32) ≤ nI k from nI_ge (b := 6) hk (by decide))]
  simp only [h.f18, Option.bind_some]
  rw [h.stD _ (-1) (show (11 : Int32) + nI k = nI (11 + k) from nI_add 11 k) (by omega), Option.bind_some, rF_sD, nI_1]
theorem st_node {J : MJ} (h : RefL J) (Y : MI) (A G : RowV) (c : Int32) {k f : Nat} (hk : k < 40) (hf : f < 4) {x : Int32} (hx : x = nI f) : Ev T_X10_stands 121 [some (mR (some 188)), some (mI (nI k)), some (mI x)] [] (rF Y A G c, J) = Ev T_X10_stands 121 [some (mR (some 188)), some (mI (nI k)), some (mI (nI (f + 1)))] [] (rF Y (sD A (401 + 5 * k + f) (Y 191 (4 * k + f))) G c, J) := by
  subst hx
  rw [E_X10_stands_121, if_neg (show ¬ (4 : Int32) ≤ nI f from nI_ge (b := 4) hf (by decide))]
  simp only [h.f18, Option.bind_some, w_nodeAt _ k f rfl, asI_I, h.kt, if_true]
  rw [w_draftedZ h _ rfl (by omega), rF_o _ _ _ _ (by decide) (by decide) (by decide)]
  simp only [Option.bind_some, asI_I]
  rw [h.stD _ _ rfl (by omega), Option.bind_some, rF_sD, nI_1]
theorem st_nodes {J : MJ} (h : RefL J) (Y : MI) (A G : RowV) (c : Int32) {N : Nat} (hN : Y 188 10 = nI N) (N40 : N ≤ 40) : Ev T_X10_stands 111 [some (mR (some 188)), some (mI 0), none] [] (rF Y A G c, J) = Ev T_X10_stands 111 [some (mR (some 188)), some (mI (nI N)), none] [] (rF Y (itr (nd5 (Y 191)) 0 N A) G c, J) := by
  refine loop_all (fun k A => Ev T_X10_stands 111 [some (mR (some 188)), some (mI (nI k)), none] [] (rF Y A G c, J)) (nd5 (Y 191)) N A (fun k A hk => ?_)
  try dsimp only
  rw [E_X10_stands_111]
  simp only [h.fi, Option.bind_some]
  rw [rF_k _ _ _ _ (by decide), hN, if_neg (nI_ge hk (by omega))]
  rw [st_node h Y A G c (show k < 40 by omega) (show 0 < 4 by decide) (show (0 : Int32) = nI 0 from rfl), st_node h Y _ G c (show k < 40 by omega) (show 1 < 4 by decide) rfl, st_node h Y _ G c (show k < 40 by omega) (show 2 < 4 by decide) rfl, st_node h Y _ G c (show k < 40 by omega) (show 3 < 4 by decide) rfl]
  rw [E_X10_stands_121, if_pos (show (4 : Int32) ≤ nI (3 + 1) by decide)]
  simp only [h.f18, Option.bind_some, w_nodeAt _ k 4 (show (4 : Int32) = nI 4 from rfl), asI_I]
  rw [h.stD _ _ rfl (by omega), Option.bind_some, rF_sD, nI_1]
  rfl
theorem w_stands {J : MJ} (h : RefL J) (Y : MI) {N V : Nat} (y10 : Y 188 10 = nI N) (N40 : N ≤ 40) (y12 : Y 188 12 = nI V) (y21 : Y 188 21 = -1) : ∃ Z, M_X10_stands [mR (some 188)] (Y, J) = some (none, (Z, J)) ∧ FrD (Z 194) N (Y 191) ∧ (∀ x, x ≠ 188 → x ≠ 194 → Z x = Y x) ∧ (∀ k, k ≠ 11 → k ≠ 13 → k ≠ 28 → k ≠ 32 → k ≠ 36 → k ≠ 37 → Z 188 k = Y 188 k) ∧ Z 188 11 = nI V ∧ Z 188 13 = 1 ∧ Z 188 28 = 0 ∧ Z 188 32 = 0 ∧ Z 188 36 = 0 ∧ Z 188 37 = -1 := by
  have e1 : M_X10_stands [mR (some 188)] (Y, J) = Ev T_X10_stands 15 [some (mR (some 188)), some (mI 0), none] [] (up2 (up2 Y 188 13 1) 188 11 (nI V), J) := by
    have k12 : up2 Y 188 13 1 188 12 = nI V := by rw [up2_k _ _ _ (by decide)]; exact y12
    rw [E_X10_stands, wZ_ok 13 1 h.k (Or.inr rfl)]
    simp only [Option.bind_some, h.fi, k12, h.wi]
  have Y2k : ∀ k, k ≠ 13 → k ≠ 11 → up2 (up2 Y 188 13 1) 188 11 (nI V) 188 k = Y 188 k := fun k a b => by rw [up2_k _ _ _ b, up2_k _ _ _ a]
  have Y2o : ∀ x, x ≠ 188 → up2 (up2 Y 188 13 1) 188 11 (nI V) x = Y x := fun x a => by rw [up2_o _ _ _ a, up2_o _ _ _ a]
  have Y211 : up2 (up2 Y 188 13 1) 188 11 (nI V) 188 11 = nI V := up2_s _ _ _ _
  have Y213 : up2 (up2 Y 188 13 1) 188 11 (nI V) 188 13 = 1 := by rw [up2_k _ _ _ (by decide), up2_s]
  generalize up2 (up2 Y 188 13 1) 188 11 (nI V) = Y2 at e1 Y2k Y2o Y211 Y213
  have i0 : (Y2, J) = (rF Y2 (Y2 194) (Y2 195) (Y2 188 22), J) := by rw [rF_id]
  rw [i0, st_zero h] at e1
  have a1 : ∀ j, j < 1853 → itr (fun k A => sD A (0 + k) ((fun _ => (0 : Int32)) k)) 0 1853 (Y2 194) j = 0 := fun j hj => by
    rw [itr_sD 0 (fun _ => 0) 1853 0 _ j, if_pos (by omega)]
  generalize itr (fun k A => sD A (0 + k) ((fun _ => (0 : Int32)) k)) 0 1853 (Y2 194) = A1 at e1 a1
  have e2 : Ev T_X10_stands 15 [some (mR (some 188)), some (mI (nI 1853)), none] [] (rF Y2 A1 (Y2 195) (Y2 188 22), J) = Ev T_X10_stands 55 [some (mR (some 188)), some (mI 0), none] [] (rF Y2 (sD (sD A1 3 40) 4 (nI N)) (Y2 195) (Y2 188 22), J) := by
    rw [E_X10_stands_15, if_pos (show (1853 : Int32) ≤ nI 1853 by decide)]
    simp only [h.f18, Option.bind_some]
    rw [h.stD (k := 3) _ 40 (show (3 : Int32) = nI 3 from rfl) (by decide), Option.bind_some, rF_sD]
    simp only [h.f18, Option.bind_some, h.fi]
    rw [h.stD (k := 4) _ _ (show (4 : Int32) = nI 4 from rfl) (by decide), Option.bind_some, rF_sD, rF_k _ _ _ _ (by decide), Y2k 10 (by decide) (by decide), y10]
  rw [e2, st_vol h] at e1
  have a2 : ∀ j, j < 1853 → itr vr3 0 3 (sD (sD A1 3 40) 4 (nI N)) j = if 5 ≤ j ∧ j < 11 then -1 else if j = 4 then nI N else if j = 3 then 40 else 0 := fun j hj => by
    show vr3 2 (vr3 1 (vr3 0 (sD (sD A1 3 40) 4 (nI N)))) j = _
    unfold vr3
    by_cases z : 5 ≤ j ∧ j < 11
    · rw [if_pos z]
      have : j = 5 ∨ j = 6 ∨ j = 7 ∨ j = 8 ∨ j = 9 ∨ j = 10 := by omega
      rcases this with q | q | q | q | q | q <;> subst q <;> rfl
    · rw [if_neg z, sD_n _ _ (by omega), sD_n _ _ (by omega), sD_n _ _ (by omega), sD_n _ _ (by omega), sD_n _ _ (by omega), sD_n _ _ (by omega)]
      by_cases w : j = 4
      · rw [if_pos w, w, sD_s]
      · rw [if_neg w, sD_n _ _ w]
        by_cases u : j = 3
        · rw [if_pos u, u, sD_s]
        · rw [if_neg u, sD_n _ _ u, a1 j hj]
  generalize itr vr3 0 3 (sD (sD A1 3 40) 4 (nI N)) = A2 at e1 a2
  rw [E_X10_stands_55, if_pos (show (3 : Int32) ≤ nI 3 by decide), st_han h, E_X10_stands_87, if_pos (show (6 : Int32) ≤ nI 6 by decide), st_nodes h Y2 _ _ _ (by rw [Y2k 10 (by decide) (by decide)]; exact y10) N40] at e1
  have a3 : ∀ j, j < 1853 → itr (fun k A => sD A (11 + k) ((fun _ => (-1 : Int32)) k)) 0 6 A2 j = if 5 ≤ j ∧ j < 17 then -1 else if j = 4 then nI N else if j = 3 then 40 else 0 := fun j hj => by
    rw [itr_sD 11 (fun _ => -1) 6 0 _ j]
    by_cases z : 11 ≤ j ∧ j < 17
    · rw [if_pos (by omega), if_pos (by omega)]
    · rw [if_neg (by omega), a2 j hj]
      by_cases w : 5 ≤ j ∧ j < 11
      · rw [if_pos w, if_pos (by omega)]
      · rw [if_neg w, if_neg (show ¬ (5 ≤ j ∧ j < 17) by omega)]
  generalize itr (fun k A => sD A (11 + k) ((fun _ => (-1 : Int32)) k)) 0 6 A2 = A3 at e1 a3
  rw [Y2o 191 (by decide)] at e1
  have a4 : ∀ j, j < 1853 → (j < 401 ∨ 601 ≤ j) → itr (nd5 (Y 191)) 0 N A3 j = if 5 ≤ j ∧ j < 17 then -1 else if j = 4 then nI N else if j = 3 then 40 else 0 := fun j hj z => by
    rw [itr_nd5_o _ _ _ _ (by omega), a3 j hj]
  have a5 := fun m (hm : m < N) => itr_nd5 (Y 191) N 0 A3 m (Nat.zero_le _) (by omega)
  generalize itr (nd5 (Y 191)) 0 N A3 = A at e1 a4 a5
  have z0 : ∀ j, j < 1853 → (j < 401 ∨ 601 ≤ j) → (j < 3 ∨ 17 ≤ j) → A j = 0 := fun j hj p q => by
    rw [a4 j hj p, if_neg (by omega), if_neg (by omega), if_neg (by omega)]
  have mk : M_X10_makes [mR (some 188), mI (-1), mI 0, mI 0] (rF Y2 A (Y2 195) (Y2 188 22), J) = some (some (mI (nI 0)), (comeD (mk0 (rF Y2 A (Y2 195) (Y2 188 22)) 0 (-1) 0 0) 0, J)) := by
    refine w_makes h _ (-1) 0 0 (e := 0) ?_ (w_comesTo0 h _ ?_ (by decide))
    · refine fst_is (Nat.le_refl _) (by decide) ?_ (fun i a b => by omega)
      rw [rF_D]
      unfold thQ
      rw [z0 _ (by decide) (by decide) (by decide)]
      decide
    · unfold mk0
      rw [up2_o _ _ _ (by decide), up2_o _ _ _ (by decide), up2_o _ _ _ (by decide), up2_o _ _ _ (by decide), up2_o _ _ _ (by decide), up2_o _ _ _ (by decide), up2_o _ _ _ (by decide), up2_o _ _ _ (by decide), rF_k _ _ _ _ (by decide), Y2k 21 (by decide) (by decide)]
      exact y21
  have cm : comeD (mk0 (rF Y2 A (Y2 195) (Y2 188 22)) 0 (-1) 0 0) 0 = rF Y2 (sD (sD (sD (sD (sD (sD (sD (sD (sD (sD A 701 1) 702 (-1)) 703 0) 704 0) 705 0) 707 0) 708 (-1)) 709 0) 706 0) 0 1) (Y2 195) (Y2 188 22) := by
    unfold comeD mk0
    simp only [rF_sD, rF_D]
    have q0 : A 0 = 0 := z0 0 (by decide) (by decide) (by decide)
    have q1 : (sD (sD (sD (sD (sD (sD (sD (sD A (701 + 9 * 0 + 0) 1) (701 + 9 * 0 + 1) (-1)) (701 + 9 * 0 + 2) 0) (701 + 9 * 0 + 3) 0) (701 + 9 * 0 + 4) 0) (701 + 9 * 0 + 6) (A 0)) (701 + 9 * 0 + 7) (-1)) (701 + 9 * 0 + 8) 0) 0 = 0 := by
      rw [sD_n _ _ (by decide), sD_n _ _ (by decide), sD_n _ _ (by decide), sD_n _ _ (by decide), sD_n _ _ (by decide), sD_n _ _ (by decide), sD_n _ _ (by decide), sD_n _ _ (by decide), q0]
    rw [q1, q0]
    rfl
  rw [cm] at mk
  refine ⟨up2 (up2 (up2 (up2 (rF Y2 (sD (sD (sD (sD (sD (sD (sD (sD (sD (sD (sD A 701 1) 702 (-1)) 703 0) 704 0) 705 0) 707 0) 708 (-1)) 709 0) 706 0) 0 1) 5 0) (Y2 195) (Y2 188 22)) 188 28 0) 188 36 0) 188 37 (-1)) 188 32 0, ?_, ?_, ?_, ?_, ?_, ?_, ?_, ?_, ?_, ?_⟩
  · rw [e1, E_X10_stands_111]
    simp only [h.fi, Option.bind_some]
    rw [rF_k _ _ _ _ (by decide), Y2k 10 (by decide) (by decide), y10, if_pos (Int32.le_refl _)]
    simp only [h.f18, Option.bind_some, h.kt, if_true, mk, asI_I]
    rw [h.stD (k := 5) _ _ (show (5 : Int32) = nI 5 from rfl) (by decide), Option.bind_some, rF_sD]
    simp only [h.wi, Option.bind_some]
    rw [wZ_ok 32 0 h.k (Or.inl rfl), Option.bind_some]
    rfl
  · rw [up2_o _ _ _ (by decide), up2_o _ _ _ (by decide), up2_o _ _ _ (by decide), up2_o _ _ _ (by decide), rF_D]
    have so : ∀ j, (1 ≤ j ∧ j < 701 ∨ 710 ≤ j) → j ≠ 5 → (sD (sD (sD (sD (sD (sD (sD (sD (sD (sD (sD A 701 1) 702 (-1)) 703 0) 704 0) 705 0) 707 0) 708 (-1)) 709 0) 706 0) 0 1) 5 0) j = A j := fun j p q => by
      rw [sD_n _ _ (by omega), sD_n _ _ (by omega), sD_n _ _ (by omega), sD_n _ _ (by omega), sD_n _ _ (by omega), sD_n _ _ (by omega), sD_n _ _ (by omega), sD_n _ _ (by omega), sD_n _ _ (by omega), sD_n _ _ (by omega), sD_n _ _ (by omega)]
    have c1 : (sD (sD (sD (sD (sD (sD (sD (sD (sD (sD (sD A 701 1) 702 (-1)) 703 0) 704 0) 705 0) 707 0) 708 (-1)) 709 0) 706 0) 0 1) 5 0) 0 = 1 := rfl
    have c5 : (sD (sD (sD (sD (sD (sD (sD (sD (sD (sD (sD A 701 1) 702 (-1)) 703 0) 704 0) 705 0) 707 0) 708 (-1)) 709 0) 706 0) 0 1) 5 0) 5 = 0 := rfl
    have c701 : (sD (sD (sD (sD (sD (sD (sD (sD (sD (sD (sD A 701 1) 702 (-1)) 703 0) 704 0) 705 0) 707 0) 708 (-1)) 709 0) 706 0) 0 1) 5 0) 701 = 1 := by simp [sD]
    have cs : (sD (sD (sD (sD (sD (sD (sD (sD (sD (sD (sD A 701 1) 702 (-1)) 703 0) 704 0) 705 0) 707 0) 708 (-1)) 709 0) 706 0) 0 1) 5 0) 702 = -1 ∧ (sD (sD (sD (sD (sD (sD (sD (sD (sD (sD (sD A 701 1) 702 (-1)) 703 0) 704 0) 705 0) 707 0) 708 (-1)) 709 0) 706 0) 0 1) 5 0) 703 = 0 ∧ (sD (sD (sD (sD (sD (sD (sD (sD (sD (sD (sD A 701 1) 702 (-1)) 703 0) 704 0) 705 0) 707 0) 708 (-1)) 709 0) 706 0) 0 1) 5 0) 704 = 0 ∧ (sD (sD (sD (sD (sD (sD (sD (sD (sD (sD (sD A 701 1) 702 (-1)) 703 0) 704 0) 705 0) 707 0) 708 (-1)) 709 0) 706 0) 0 1) 5 0) 705 = 0 ∧ (sD (sD (sD (sD (sD (sD (sD (sD (sD (sD (sD A 701 1) 702 (-1)) 703 0) 704 0) 705 0) 707 0) 708 (-1)) 709 0) 706 0) 0 1) 5 0) 706 = 0 ∧ (sD (sD (sD (sD (sD (sD (sD (sD (sD (sD (sD A 701 1) 702 (-1)) 703 0) 704 0) 705 0) 707 0) 708 (-1)) 709 0) 706 0) 0 1) 5 0) 707 = 0 ∧ (sD (sD (sD (sD (sD (sD (sD (sD (sD (sD (sD A 701 1) 702 (-1)) 703 0) 704 0) 705 0) 707 0) 708 (-1)) 709 0) 706 0) 0 1) 5 0) 708 = -1 ∧ (sD (sD (sD (sD (sD (sD (sD (sD (sD (sD (sD A 701 1) 702 (-1)) 703 0) 704 0) 705 0) 707 0) 708 (-1)) 709 0) 706 0) 0 1) 5 0) 709 = 0 := by simp [sD]
    generalize (sD (sD (sD (sD (sD (sD (sD (sD (sD (sD (sD A 701 1) 702 (-1)) 703 0) 704 0) 705 0) 707 0) 708 (-1)) 709 0) 706 0) 0 1) 5 0) = D at so c1 c5 c701 cs
    have lo : ∀ j, 1 ≤ j → j < 401 → j ≠ 5 → D j = if 5 ≤ j ∧ j < 17 then -1 else if j = 4 then nI N else if j = 3 then 40 else 0 := fun j a b c => by rw [so j (by omega) c, a4 j (by omega) (by omega)]
    refine ⟨⟨c1, ?_, ?_, ?_, ?_, c5, ?_, ?_⟩, fun v hv => ?_, fun k hk => ?_, fun k hk => ?_, fun k hk => ?_, fun e he => ?_, cs⟩
    · rw [lo 1 (by decide) (by decide) (by decide)]; rfl
    · rw [lo 2 (by decide) (by decide) (by decide)]; rfl
    · rw [lo 3 (by decide) (by decide) (by decide)]; rfl
    · rw [lo 4 (by decide) (by decide) (by decide)]; rfl
    · rw [lo 6 (by decide) (by decide) (by decide)]; rfl
    · rw [lo 7 (by decide) (by decide) (by decide)]; rfl
    · rw [lo _ (by omega) (by omega) (by omega), if_pos (by omega)]
    · rw [lo _ (by omega) (by omega) (by omega), if_pos (by omega)]
    · rw [lo _ (by omega) (by omega) (by omega), if_neg (by omega), if_neg (by omega), if_neg (by omega)]
    · obtain ⟨b0, b1, b2, b3, b4⟩ := a5 k hk
      rw [so _ (by omega) (by omega), so _ (by omega) (by omega), so _ (by omega) (by omega), so _ (by omega) (by omega), so _ (by omega) (by omega)]
      exact ⟨b0, b1, b2, b3, b4⟩
    · by_cases z : e = 0
      · subst z
        rw [if_pos rfl]
        exact c701
      · rw [if_neg z, so _ (by omega) (by omega), z0 _ (by omega) (by omega) (by omega)]
  · intro x a b
    rw [up2_o _ _ _ a, up2_o _ _ _ a, up2_o _ _ _ a, up2_o _ _ _ a]
    by_cases z : x = 195
    · rw [z, rF_G]; exact Y2o 195 (by decide)
    · rw [rF_o _ _ _ _ a b z]; exact Y2o x a
  · intro k p1 p2 p3 p4 p5 p6
    rw [up2_k _ _ _ p4, up2_k _ _ _ p6, up2_k _ _ _ p5, up2_k _ _ _ p3]
    by_cases z : k = 22
    · rw [z, rF_c]; exact Y2k 22 (by decide) (by decide)
    · rw [rF_k _ _ _ _ z]; exact Y2k k p2 p1
  · rw [up2_k _ _ _ (by decide), up2_k _ _ _ (by decide), up2_k _ _ _ (by decide), up2_k _ _ _ (by decide), rF_k _ _ _ _ (by decide)]; exact Y211
  · rw [up2_k _ _ _ (by decide), up2_k _ _ _ (by decide), up2_k _ _ _ (by decide), up2_k _ _ _ (by decide), rF_k _ _ _ _ (by decide)]; exact Y213
  · rw [up2_k _ _ _ (by decide), up2_k _ _ _ (by decide), up2_k _ _ _ (by decide), up2_s]
  · rw [up2_s]
  · rw [up2_k _ _ _ (by decide), up2_k _ _ _ (by decide), up2_s]
  · rw [up2_k _ _ _ (by decide), up2_s]

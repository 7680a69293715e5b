/-! A node drafted, by the reference. -/
def dS (S : RowV) (n : Nat) (v fl x nm : Int32) : RowV := sD (sD (sD (sD S (4 * n + 0) v) (4 * n + 1) fl) (4 * n + 2) x) (4 * n + 3) nm
theorem dS_o (S : RowV) {n : Nat} (v fl x nm : Int32) {j : Nat} (h : j < 4 * n) : dS S n v fl x nm j = S j := by
  unfold dS
  rw [sD_n _ _ (by omega), sD_n _ _ (by omega), sD_n _ _ (by omega), sD_n _ _ (by omega)]
theorem dS_0 (S : RowV) (n : Nat) (v fl x nm : Int32) : dS S n v fl x nm (4 * n) = v := by
  unfold dS
  rw [sD_n _ _ (by omega), sD_n _ _ (by omega), sD_n _ _ (by omega)]
  exact sD_s _ _ _
theorem dS_1 (S : RowV) (n : Nat) (v fl x nm : Int32) : dS S n v fl x nm (4 * n + 1) = fl := by
  unfold dS
  rw [sD_n _ _ (by omega), sD_n _ _ (by omega), sD_s]
theorem dS_2 (S : RowV) (n : Nat) (v fl x nm : Int32) : dS S n v fl x nm (4 * n + 2) = x := by
  unfold dS
  rw [sD_n _ _ (by omega), sD_s]
theorem dS_3 (S : RowV) (n : Nat) (v fl x nm : Int32) : dS S n v fl x nm (4 * n + 3) = nm := by
  unfold dS
  rw [sD_s]
theorem i4_0 (n : Nat) : (4 : Int32) * nI n = nI (4 * n + 0) := by
  rw [show (4 : Int32) = nI 4 from rfl, nI_mul, Nat.add_zero]
theorem i4_1 (n : Nat) : (4 : Int32) * nI n + 1 = nI (4 * n + 1) := i4 n 1
theorem i4_2 (n : Nat) : (4 : Int32) * nI n + 2 = nI (4 * n + 2) := i4 n 2
theorem i4_3 (n : Nat) : (4 : Int32) * nI n + 3 = nI (4 * n + 3) := i4 n 3
theorem nI_p (n : Nat) : nI (n + 1) - 1 = nI n := by
  rw [show (1 : Int32) = nI 1 from rfl, nI_sub (by omega)]
  rfl
theorem stS {J : MJ} (h : RefL J) (I : MI) (p b g m v : Int32) (S : RowV) {k : Nat} (hk : k < 240) {x : Int32} (hx : x = nI k) (y : Int32) : st (vF I p b g m v S, J) 11 191 x y = some (vF I p b g m v (sD S k y), J) := by
  rw [stx h.s9 hk (by decide) hx, vF_sS]
/-- the end of the loop, nothing wrong -/
theorem dr_end {J : MJ} (h : RefL J) (I : MI) (p g v : Int32) (S : RowV) {n : Nat} (n40 : n < 40) (x1 x2 x3 : Int32) : Ev T_X10_drafts 27 [some (mR (some 188)), some (mI x1), some (mI x2), some (mI x3), some (mI (nI n))] [] (vF I p 0 g (nI n) v S, J) = some (some (mI (nI n)), (vF I p 0 g (nI (n + 1)) v (dS S n v (if x1 = -1 then 1 else 0) x1 x2), J)) := by
  have s0 : ∀ S y, st (vF I p 0 g (nI n) v S, J) 11 191 (4 * nI n) y = some (vF I p 0 g (nI n) v (sD S (4 * n + 0) y), J) := fun S y => stS h I p 0 g (nI n) v S (by omega) (i4_0 n) y
  have s1 : ∀ S y, st (vF I p 0 g (nI n) v S, J) 11 191 (4 * nI n + 1) y = some (vF I p 0 g (nI n) v (sD S (4 * n + 1) y), J) := fun S y => stS h I p 0 g (nI n) v S (by omega) (i4_1 n) y
  have s2 : ∀ S y, st (vF I p 0 g (nI n) v S, J) 11 191 (4 * nI n + 2) y = some (vF I p 0 g (nI n) v (sD S (4 * n + 2) y), J) := fun S y => stS h I p 0 g (nI n) v S (by omega) (i4_2 n) y
  have s3 : ∀ S y, st (vF I p 0 g (nI n) v S, J) 11 191 (4 * nI n + 3) y = some (vF I p 0 g (nI n) v (sD S (4 * n + 3) y), J) := fun S y => stS h I p 0 g (nI n) v S (by omega) (i4_3 n) y
  rw [E_X10_drafts_27]
  simp only [h.fi, vF_10, vF_4, vF_12, Option.bind_some, h.f9, if_pos (Int32.le_refl (nI n)), if_true, s0]
  by_cases z : x1 = -1
  · simp only [if_pos z, w_flag, Option.bind_some, asI_I, s1, s2, s3, h.f9, h.fi, vF_10, h.wi, vF_s10, nI_1, nI_p]
    rfl
  · simp only [if_neg z, w_flag, Option.bind_some, asI_I, s1, s2, s3, h.f9, h.fi, vF_10, h.wi, vF_s10, nI_1, nI_p]
    rfl
theorem dr_bad {J : MJ} (h : RefL J) (I : MI) (p b g v : Int32) (S : RowV) {n : Nat} (hb : ¬ b = 0) (x1 x2 x3 : Int32) : Ev T_X10_drafts 27 [some (mR (some 188)), some (mI x1), some (mI x2), some (mI x3), some (mI (nI n))] [] (vF I p b g (nI n) v S, J) = some (some (mI (-1)), (vF I p b g (nI n) v S, J)) := by
  rw [E_X10_drafts_27]
  simp only [h.fi, vF_10, vF_4, Option.bind_some, if_pos (Int32.le_refl (nI n)), if_neg hb]
/-- whether a sibling has the name -/
def Twi (S : RowV) (x1 x2 : Int32) (k n : Nat) : Prop := ∃ j, k ≤ j ∧ j < n ∧ S (4 * j + 2) = x1 ∧ S (4 * j + 3) = x2
theorem dr_go {J : MJ} (h : RefL J) (I : MI) (p v : Int32) (S : RowV) {n : Nat} (n40 : n ≤ 40) (x1 x2 x3 : Int32) (h1 : ¬ x1 = -1) : ∀ (nn k : Nat) (b g : Int32), k + nn = n → ∃ b' g', Ev T_X10_drafts 27 [some (mR (some 188)), some (mI x1), some (mI x2), some (mI x3), some (mI (nI k))] [] (vF I p b g (nI n) v S, J) = Ev T_X10_drafts 27 [some (mR (some 188)), some (mI x1), some (mI x2), some (mI x3), some (mI (nI n))] [] (vF I p b' g' (nI n) v S, J) ∧ (¬ b = 0 → ¬ b' = 0) ∧ (Twi S x1 x2 k n → ¬ b' = 0) ∧ (b = 0 → ¬ Twi S x1 x2 k n → b' = 0 ∧ g' = g)
  | 0, k, b, g, hk => by
    have : k = n := by omega
    subst this
    refine ⟨b, g, rfl, fun z => z, fun ⟨j, a, b, _⟩ => by omega, fun z _ => ⟨z, rfl⟩⟩
  | nn + 1, k, b, g, hk => by
    have nx : Ev T_X10_drafts 27 [some (mR (some 188)), some (mI x1), some (mI x2), some (mI x3), some (mI (nI k))] [] (vF I p b g (nI n) v S, J) = if S (4 * k + 2) = x1 ∧ S (4 * k + 3) = x2 then (M_X10_fail [mR (some 188), mI 3, mI x3] (vF I p b g (nI n) v S, J)).bind (fun u72 => (asV u72.1).bind fun _ => Ev T_X10_drafts 27 [some (mR (some 188)), some (mI x1), some (mI x2), some (mI x3), some (mI (nI (k + 1)))] [] u72.2) else Ev T_X10_drafts 27 [some (mR (some 188)), some (mI x1), some (mI x2), some (mI x3), some (mI (nI (k + 1)))] [] (vF I p b g (nI n) v S, J) := by
      rw [E_X10_drafts_27]
      simp only [h.fi, vF_10, Option.bind_some, h.kt, if_true, if_neg h1, w_drafted h I p b g (nI n) v S (show (2 : Int32) = nI 2 from rfl) (show 4 * k + 2 < 240 by omega), w_drafted h I p b g (nI n) v S (show (3 : Int32) = nI 3 from rfl) (show 4 * k + 3 < 240 by omega), asI_I, nI_1]
      rw [if_neg (nI_ge (show k < n by omega) (by omega))]
      by_cases c : S (4 * k + 2) = x1
      · by_cases d : S (4 * k + 3) = x2
        · rw [if_pos c, if_pos d, if_pos ⟨c, d⟩]
        · rw [if_pos c, if_neg d, if_neg (fun z => d z.2)]
      · rw [if_neg c, if_neg (fun z => c z.1)]
    have tw : ∀ q, Twi S x1 x2 k n → q = (S (4 * k + 2) = x1 ∧ S (4 * k + 3) = x2) → q ∨ Twi S x1 x2 (k + 1) n := fun q ⟨j, j1, j2, j3, j4⟩ e => by
      rcases Nat.eq_or_lt_of_le j1 with z | z
      · subst z; exact Or.inl (by rw [e]; exact ⟨j3, j4⟩)
      · exact Or.inr ⟨j, by omega, j2, j3, j4⟩
    by_cases c : S (4 * k + 2) = x1 ∧ S (4 * k + 3) = x2
    · rw [if_pos c] at nx
      have tk : Twi S x1 x2 k n := ⟨k, Nat.le_refl _, by omega, c.1, c.2⟩
      by_cases hb : b = 0
      · subst hb
        obtain ⟨b', g', e1, e2, _, _⟩ := dr_go h I p v S n40 x1 x2 x3 h1 nn (k + 1) 3 x3 (by omega)
        rw [w_fail0 h] at nx
        simp only [Option.bind_some, asV_n] at nx
        refine ⟨b', g', nx.trans e1, fun z => absurd rfl z, fun _ => e2 (by decide), fun _ z => absurd tk z⟩
      · obtain ⟨b', g', e1, e2, _, _⟩ := dr_go h I p v S n40 x1 x2 x3 h1 nn (k + 1) b g (by omega)
        rw [w_fail1 h _ _ _ _ _ _ _ _ _ hb] at nx
        simp only [Option.bind_some, asV_n] at nx
        refine ⟨b', g', nx.trans e1, e2, fun _ => e2 hb, fun _ z => absurd tk z⟩
    · rw [if_neg c] at nx
      obtain ⟨b', g', e1, e2, e3, e4⟩ := dr_go h I p v S n40 x1 x2 x3 h1 nn (k + 1) b g (by omega)
      refine ⟨b', g', nx.trans e1, e2, fun z => ?_, fun z w => e4 z (fun ⟨j, j1, j2, j3⟩ => w ⟨j, by omega, j2, j3⟩)⟩
      rcases tw _ z rfl with y | y
      · exact absurd y c
      · exact e3 y
theorem n40I {n : Nat} (h : n < 40) : ¬ nI n = 40 := fun z => absurd ((nI_eq (a := n) (b := 40) (by omega) (by decide)).mp z) (by omega)
/-- one told twice -/
theorem w_drafts_two {J : MJ} (h : RefL J) (I : MI) (p g v : Int32) (S : RowV) {n : Nat} (n40 : n < 40) (x1 x2 x3 : Int32) (h1 : ¬ x1 = -1) (tw : Twi S x1 x2 0 n) : ∃ b' g', ¬ b' = 0 ∧ M_X10_drafts [mR (some 188), mI x1, mI x2, mI x3] (vF I p 0 g (nI n) v S, J) = some (some (mI (-1)), (vF I p b' g' (nI n) v S, J)) := by
  obtain ⟨b', g', e1, _, e3, _⟩ := dr_go h I p v S (n := n) (by omega) x1 x2 x3 h1 n 0 0 g (by omega)
  refine ⟨b', g', e3 tw, ?_⟩
  rw [E_X10_drafts]
  simp only [h.fi, vF_10, vF_4, Option.bind_some, if_neg (n40I n40), if_true]
  exact e1.trans (dr_bad h I p b' g' v S (e3 tw) x1 x2 x3)
theorem w_drafts {J : MJ} (h : RefL J) (I : MI) (p g v : Int32) (S : RowV) {n : Nat} (n40 : n < 40) (x1 x2 x3 : Int32) (h1 : ¬ x1 = -1) (tw : ¬ Twi S x1 x2 0 n) : M_X10_drafts [mR (some 188), mI x1, mI x2, mI x3] (vF I p 0 g (nI n) v S, J) = some (some (mI (nI n)), (vF I p 0 g (nI (n + 1)) v (dS S n v 0 x1 x2), J)) := by
  obtain ⟨b', g', e1, _, _, e4⟩ := dr_go h I p v S (n := n) (by omega) x1 x2 x3 h1 n 0 0 g (by omega)
  obtain ⟨z1, z2⟩ := e4 rfl tw
  subst z1 z2
  rw [E_X10_drafts]
  simp only [h.fi, vF_10, vF_4, Option.bind_some, if_neg (n40I n40), if_true]
  refine (e1.trans (dr_end h I p g' v S n40 x1 x2 x3)).trans ?_
  rw [if_neg h1]
theorem w_drafts_root {J : MJ} (h : RefL J) (I : MI) (p g v : Int32) (S : RowV) {n : Nat} (n40 : n < 40) (x3 : Int32) : M_X10_drafts [mR (some 188), mI (-1), mI 0, mI x3] (vF I p 0 g (nI n) v S, J) = some (some (mI (nI n)), (vF I p 0 g (nI (n + 1)) v (dS S n v 1 (-1) 0), J)) := by
  have s0 : ∀ S y, st (vF I p 0 g (nI n) v S, J) 11 191 (4 * nI n) y = some (vF I p 0 g (nI n) v (sD S (4 * n + 0) y), J) := fun S y => stS h I p 0 g (nI n) v S (by omega) (i4_0 n) y
  have s1 : ∀ S y, st (vF I p 0 g (nI n) v S, J) 11 191 (4 * nI n + 1) y = some (vF I p 0 g (nI n) v (sD S (4 * n + 1) y), J) := fun S y => stS h I p 0 g (nI n) v S (by omega) (i4_1 n) y
  have s2 : ∀ S y, st (vF I p 0 g (nI n) v S, J) 11 191 (4 * nI n + 2) y = some (vF I p 0 g (nI n) v (sD S (4 * n + 2) y), J) := fun S y => stS h I p 0 g (nI n) v S (by omega) (i4_2 n) y
  have s3 : ∀ S y, st (vF I p 0 g (nI n) v S, J) 11 191 (4 * nI n + 3) y = some (vF I p 0 g (nI n) v (sD S (4 * n + 3) y), J) := fun S y => stS h I p 0 g (nI n) v S (by omega) (i4_3 n) y
  rw [E_X10_drafts]
  simp only [h.fi, vF_10, vF_4, Option.bind_some, if_neg (n40I n40), if_true]
  rw [E_X10_drafts_27]
  by_cases z : nI n ≤ 0
  · simp only [h.fi, vF_10, vF_4, vF_12, Option.bind_some, h.f9, if_pos z, if_true, s0, w_flag, asI_I, s1, s2, s3, h.wi, vF_s10, nI_1, nI_p, if_neg i10]
    rfl
  · simp only [h.fi, vF_10, vF_4, vF_12, Option.bind_some, h.f9, if_neg z, if_true, s0, w_flag, asI_I, s1, s2, s3, h.wi, vF_s10, nI_1, nI_p, if_neg i10]
    rfl
theorem w_drafts_full {J : MJ} (h : RefL J) (I : MI) (p g v : Int32) (S : RowV) (x1 x2 x3 : Int32) : M_X10_drafts [mR (some 188), mI x1, mI x2, mI x3] (vF I p 0 g (nI 40) v S, J) = some (some (mI (-1)), (vF I p 5 x3 (nI 40) v S, J)) := by
  rw [E_X10_drafts]
  simp only [h.fi, vF_10, Option.bind_some, if_pos (show nI 40 = 40 from rfl), h.kt, if_true, w_fail0 h, asV_n, vF_4, if_neg (show ¬ (5 : Int32) = 0 by decide)]
theorem w_drafts_bad {J : MJ} (h : RefL J) (I : MI) (p b g m v : Int32) (S : RowV) (hb : ¬ b = 0) (x1 x2 x3 : Int32) : M_X10_drafts [mR (some 188), mI x1, mI x2, mI x3] (vF I p b g m v S, J) = some (some (mI (-1)), (vF I p b g m v S, J)) := by
  rw [E_X10_drafts]
  by_cases z : m = 40
  · simp only [h.fi, vF_10, Option.bind_some, if_pos z, h.kt, if_true, w_fail1 h _ _ _ _ _ _ _ _ _ hb, asV_n, vF_4, if_neg hb]
  · simp only [h.fi, vF_10, Option.bind_some, if_neg z, vF_4, if_neg hb]

/-! The telling path, on both sides. -/
/-- how many fit and are alike by path p to room r -/
def alk (val : Nat → Nat → Int32) (ft : Nat → Bool) (p r : Nat) : Nat := cnt (fun k => ft k && decide (val k (p + 1) - val k p = val r (p + 1) - val r p)) 0 37
def lp_mst (val : Nat → Nat → Int32) (ft : Nat → Bool) (p : Nat) : Nat → Nat → Nat → Nat
  | 0, _, m => m
  | f + 1, k, m => lp_mst val ft p f (k + 1) (if ft k = true then max m (alk val ft p k) else m)
def mst (val : Nat → Nat → Int32) (ft : Nat → Bool) (p : Nat) : Nat := lp_mst val ft p 37 0 0
theorem alk_le (val : Nat → Nat → Int32) (ft : Nat → Bool) (p r : Nat) : alk val ft p r ≤ 37 := cnt_le _ _ _
theorem mst_le (val : Nat → Nat → Int32) (ft : Nat → Bool) (p : Nat) : mst val ft p ≤ 37 := by
  have : ∀ f k m, m ≤ 37 → lp_mst val ft p f k m ≤ 37 := by
    intro f
    induction f with
    | zero => intro k m h; exact h
    | succ f ih =>
      intro k m h
      apply ih
      have := alk_le val ft p k
      split <;> omega
  exact this 37 0 0 (by omega)
theorem lp_mst_ge (val : Nat → Nat → Int32) (ft : Nat → Bool) (p : Nat) : ∀ f k m, m ≤ lp_mst val ft p f k m
  | 0, k, m => Nat.le_refl _
  | f + 1, k, m => by
    refine Nat.le_trans ?_ (lp_mst_ge val ft p f (k + 1) _)
    split <;> omega
theorem mst_pos {val : Nat → Nat → Int32} {ft : Nat → Bool} (p : Nat) {r : Nat} (hr : r < 37) (hf : ft r = true) : 0 < mst val ft p := by
  have : ∀ f k m, k ≤ r → r < k + f → 0 < lp_mst val ft p f k m := by
    intro f
    induction f with
    | zero => intro k m h1 h2; omega
    | succ f ih =>
      intro k m h1 h2
      show 0 < lp_mst val ft p f (k + 1) (if ft k = true then max m (alk val ft p k) else m)
      by_cases z : k = r
      · subst z
        rw [if_pos hf]
        have a : 0 < alk val ft p k := cnt_pos (i := k) (Nat.zero_le _) (by omega) (by simp [hf])
        have := lp_mst_ge val ft p f (k + 1) (max m (alk val ft p k))
        omega
      · exact ih (k + 1) _ (by omega) (by omega)
  exact this 37 0 0 (Nat.zero_le _) (by omega)
theorem mst_zero {val : Nat → Nat → Int32} {ft : Nat → Bool} (p : Nat) (hf : ∀ r, r < 37 → ft r = false) : mst val ft p = 0 := by
  have : ∀ f k, k + f = 37 → lp_mst val ft p f k 0 = 0 := by
    intro f
    induction f with
    | zero => intro k _; rfl
    | succ f ih =>
      intro k hk
      show lp_mst val ft p f (k + 1) (if ft k = true then max 0 (alk val ft p k) else 0) = 0
      rw [hf k (by omega), if_neg (by decide)]
      exact ih (k + 1) (by omega)
  exact this 37 0 rfl
theorem mostL_q {I : MI} {L : Nat} {val : Nat → Nat → Int32} {ft : Nat → Bool} (tab : ∀ r, r < 37 → (∀ p, p < L → allI I L (96 + r) p = val r (p + 1) - val r p) ∧ allI I L 133 r = val r L - val r 0) (fb : ∀ r, r < 37 → fitB (allI I L) 69 r = ft r) {p : Nat} (hp : p < L) : mostL (allI I L) 69 p = mst val ft p := by
  have al : ∀ r, r < 37 → alike (allI I L) 69 p r = alk val ft p r := fun r hr => by
    unfold alike alk
    have e : ∀ k, k < 37 → allI I L (69 + 27 + k) p = val k (p + 1) - val k p := fun k hk => (tab k hk).1 p hp
    exact cnt_cong (fun k _ hk => by rw [fb k (by omega), e k (by omega), e r hr])
  have : ∀ f k m, k + f = 37 → lp_mostLeft (allI I L) 69 p f k m = lp_mst val ft p f k m := by
    intro f
    induction f with
    | zero => intro k m _; rfl
    | succ f ih =>
      intro k m hk
      show lp_mostLeft (allI I L) 69 p f (k + 1) (if fitB (allI I L) 69 k = true then max m (alike (allI I L) 69 p k) else m) = lp_mst val ft p f (k + 1) (if ft k = true then max m (alk val ft p k) else m)
      rw [fb k (by omega), al k (by omega)]
      exact ih (k + 1) _ (by omega)
  exact this 37 0 0 rfl
theorem w_mostBy {J : MJ} (rl : RefL J) {Y : MI} {L : Nat} {val : Nat → Nat → Int32} {ft : Nat → Bool} (tb : Tbl Y L val ft 37) (L12 : L ≤ 12) {p : Nat} (hp : p < L) : M_X10_mostBy [mR (some 188), mI (nI p)] (Y, J) = some (some (mI (nI (mst val ft p))), (Y, J)) := by
  have l207 : ∀ r, r < 37 → ld (Y, J) 12 207 (nI (4 + r)) = some (if ft r = true then 1 else 0) := fun r hr => by
    rw [ldx rl.s42 (show 4 + r < 41 by omega) (by decide) rfl, (tb r hr).1]
  have l206 : ∀ r, r < 37 → ld (Y, J) 11 206 ((12 * nI (4 + r)) + nI p) = some (val r (p + 1) - val r p) := fun r hr => by
    have e : (12 : Int32) * nI (4 + r) + nI p = nI (12 * (4 + r) + p) := by rw [show (12 : Int32) = nI 12 from rfl, nI_mul, nI_add]
    rw [ldx rl.s41 (show 12 * (4 + r) + p < 492 by omega) (by decide) e, (tb r hr).2 p hp]
  have inn : ∀ (a : Nat) (m : Nat), a < 37 → ∀ n b c, b + n = 37 → Ev T_X10_mostBy 16 [some (mR (some 188)), some (mI (nI p)), some (mI (nI m)), some (mI (nI (4 + a))), some (mI (nI c)), some (mI (nI (4 + b)))] [] (Y, J) = Ev T_X10_mostBy 16 [some (mR (some 188)), some (mI (nI p)), some (mI (nI m)), some (mI (nI (4 + a))), some (mI (nI (c + if ft a = true then cnt (fun k => ft k && decide (val k (p + 1) - val k p = val a (p + 1) - val a p)) b n else 0))), some (mI (nI (4 + 37)))] [] (Y, J) := by
    intro a m ha n
    induction n with
    | zero =>
      intro b c hb
      have : b = 37 := by omega
      subst this
      have e : (if ft a = true then cnt (fun k => ft k && decide (val k (p + 1) - val k p = val a (p + 1) - val a p)) 37 0 else 0) = 0 := by
        split <;> rfl
      rw [e]
      rfl
    | succ n ih =>
      intro b c hb
      have ce : cnt (fun k => ft k && decide (val k (p + 1) - val k p = val a (p + 1) - val a p)) b (n + 1) = (if (ft b && decide (val b (p + 1) - val b p = val a (p + 1) - val a p)) = true then 1 else 0) + cnt (fun k => ft k && decide (val k (p + 1) - val k p = val a (p + 1) - val a p)) (b + 1) n := rfl
      rw [E_X10_mostBy_16, if_neg (show ¬ (40 : Int32) < nI (4 + b) from nI_nlt (a := 40) (by omega) (by omega)), ce]
      have n0 : ¬ ¬ (0 : Int32) = 0 := fun z => z rfl
      simp only [rl.f42, rl.f41, Option.bind_some, l207 a ha, l207 b (by omega), l206 a ha, l206 b (by omega), w_flag, asI_I, nI_1, if_true, if_neg i10, Int32.add_zero]
      rw [show 4 + b + 1 = 4 + (b + 1) by omega]
      by_cases fa : ft a = true
      · rw [if_pos fa, if_neg i10, if_pos fa]
        by_cases fb : ft b = true
        · rw [if_pos fb, if_neg i10]
          by_cases q : val a (p + 1) - val a p = val b (p + 1) - val b p
          · rw [if_pos q, ih (b + 1) (c + 1) (by omega), if_pos fa, if_pos (show (ft b && decide (val b (p + 1) - val b p = val a (p + 1) - val a p)) = true by simp [fb, q]), Nat.add_assoc]
          · rw [if_neg q, ih (b + 1) c (by omega), if_pos fa, if_neg (show ¬ (ft b && decide (val b (p + 1) - val b p = val a (p + 1) - val a p)) = true by rw [fb]; simp only [Bool.true_and, decide_eq_true_eq]; exact fun z => q z.symm), Nat.zero_add]
        · rw [if_neg fb, if_pos rfl, ih (b + 1) c (by omega), if_pos fa, if_neg (show ¬ (ft b && decide (val b (p + 1) - val b p = val a (p + 1) - val a p)) = true by simp [fb]), Nat.zero_add]
      · rw [if_neg fa, if_pos rfl, if_neg fa, ih (b + 1) c (by omega), if_neg fa]
  have out : ∀ n a m, a + n = 37 → m ≤ 37 → Ev T_X10_mostBy 4 [some (mR (some 188)), some (mI (nI p)), some (mI (nI m)), some (mI (nI (4 + a))), none, none] [] (Y, J) = some (some (mI (nI (lp_mst val ft p n a m))), (Y, J)) := by
    intro n
    induction n with
    | zero =>
      intro a m ha _
      rw [E_X10_mostBy_4, if_pos (show (40 : Int32) < nI (4 + a) from nI_lt (a := 40) (by omega) (by omega))]
      rfl
    | succ n ih =>
      intro a m ha hm
      have i1 := inn a m (by omega) 37 0 0 rfl
      rw [show (nI 0) = 0 from rfl, show nI (4 + 0) = 4 from rfl, Nat.zero_add] at i1
      rw [E_X10_mostBy_4, if_neg (show ¬ (40 : Int32) < nI (4 + a) from nI_nlt (a := 40) (by omega) (by omega)), i1, E_X10_mostBy_16, if_pos (show (40 : Int32) < nI (4 + 37) by decide), nI_1, show 4 + a + 1 = 4 + (a + 1) by omega]
      have al := alk_le val ft p a
      have fold : cnt (fun k => ft k && decide (val k (p + 1) - val k p = val a (p + 1) - val a p)) 0 37 = alk val ft p a := rfl
      rw [fold]
      show _ = some (some (mI (nI (lp_mst val ft p n (a + 1) (if ft a = true then max m (alk val ft p a) else m)))), (Y, J))
      by_cases fa : ft a = true
      · rw [if_pos fa, if_pos fa]
        by_cases q : alk val ft p a ≤ m
        · rw [if_pos (nI_le q (by omega)), show max m (alk val ft p a) = m by omega]
          exact ih (a + 1) m (by omega) hm
        · rw [if_neg (nI_ge (by omega) (by omega)), show max m (alk val ft p a) = alk val ft p a by omega]
          exact ih (a + 1) _ (by omega) (by omega)
      · rw [if_neg fa, if_neg fa, if_pos (nI_le (Nat.zero_le _) (by omega))]
        exact ih (a + 1) m (by omega) hm
  rw [E_X10_mostBy]
  have := out 37 0 0 rfl (by omega)
  rw [show (nI 0) = 0 from rfl, show nI (4 + 0) = 4 from rfl] at this
  exact this
theorem P_tells {I : MI} {J : MJ} {T B0 : Nat} (h : St I J T B0) (h30 : T + 10001 ≤ 1000000000) (x : Int32) : Pair I J T B0 (M_X9_tells [mR (some 0), mI x]) (M_X10_tells [mR (some 188), mI x]) := by
  obtain ⟨L, L12, l1, l2, l3, alt⟩ := trc_pre h h30
  have rl := h.1.2
  have uE := u_tells h.1.1 I x l1 L12
  have isn := fun s => w_isIn x 0 1 s (show (0 : Int64) = Int32.toInt64 0 from rfl) (show (1 : Int64) = Int32.toInt64 1 from rfl)
  by_cases L0 : L = 0
  · rw [if_pos (Or.inr (Or.inr L0))] at uE
    refine Pair.ask h h30 uE (w := -1) ?_ rfl
    rw [E_X10_tells]
    simp only [rl.fi, l2, L0, Option.bind_some, show nI 0 = 0 from rfl, if_true]
  · have ln : ¬ nI L = 0 := fun z => L0 ((nI_eq (by omega) (by omega)).mp (z.trans nI_0.symm))
    by_cases a : x < 0
    · rw [if_pos (Or.inl a)] at uE
      refine Pair.ask h h30 uE (w := -1) ?_ rfl
      rw [E_X10_tells]
      simp only [rl.fi, l2, Option.bind_some, if_neg ln, isn, asI_I, if_pos a, if_true]
    by_cases b : (1 : Int32) < x
    · rw [if_pos (Or.inr (Or.inl b))] at uE
      refine Pair.ask h h30 uE (w := -1) ?_ rfl
      rw [E_X10_tells]
      simp only [rl.fi, l2, Option.bind_some, if_neg ln, isn, asI_I, if_neg a, if_pos b, if_true]
    rw [if_neg (fun z => z.elim a (fun z => z.elim b L0))] at uE
    obtain ⟨val, tab, _, lo⟩ := alt.resolve_left L0
    generalize hsn : I 188 37 = sn at l3
    have fb : ∀ r, r < 37 → fitB (allI I L) 69 r = decide (sn = -1 ∨ val r L - val r 0 = sn) := fun r hr => fitB_all tab l3 hr
    obtain ⟨Y', b1, b2, b3⟩ := w_laysFits rl lo (all_out I L) L12 hsn
    generalize hft : (fun k => decide (sn = -1 ∨ val k L - val k 0 = sn)) = ft at b1 b3
    have fb' : ∀ r, r < 37 → fitB (allI I L) 69 r = ft r := fun r hr => by rw [fb r hr, ← hft]
    have y36 : allI I L 188 36 = nI L := by rw [all_out I L 188 (by decide)]; exact l2
    have y36' : Y' 188 36 = nI L := by rw [b2.2.1 36 (by decide)]; exact y36
    have x01 : (if x = 1 then (1 : Int32) else 0) = 0 ↔ x = 0 := by
      have xle : x = 0 ∨ x = 1 := by
        have e0 : (0 : Int32).toInt = 0 := rfl
        have e1 : (1 : Int32).toInt = 1 := rfl
        rw [Int32.lt_iff_toInt_lt] at a b
        rcases (show x.toInt = 0 ∨ x.toInt = 1 by omega) with z | z
        · exact Or.inl (Int32.toInt_inj.mp z)
        · exact Or.inr (Int32.toInt_inj.mp z)
      rcases xle with z | z
      · subst z; simp
      · subst z; simp
    have cl37 := cnt_le ft 37 0
    have rE : M_X10_tells [mR (some 188), mI x] (allI I L, J) = if nI (cnt ft 0 37) = 0 then some (some (mI (-1)), (Y', J)) else Ev T_X10_tells 30 [some (mR (some 188)), some (mI x), some (mI 0), some (mI 1)] [] (Y', J) := by
      rw [E_X10_tells]
      simp only [rl.fi, y36, Option.bind_some, if_neg ln, isn, asI_I, if_neg a, if_neg b, if_neg i10, rl.kt, if_true, b1]
    have mq : ∀ p, p < L → mostL (allI I L) 69 p = mst val ft p := fun p hp => mostL_q tab fb' hp
    refine ⟨_, _, Y', J, uE, ?_, h.key h30 (all_out I L) b2⟩
    rw [rE]
    by_cases c0 : cnt ft 0 37 = 0
    · rw [if_pos (by rw [c0]; rfl)]
      have fz : ∀ r, r < 37 → ft r = false := fun r hr => cnt_z c0 r (Nat.zero_le _) (by omega)
      have cl : ∀ f k, k + f = 12 → lp_telling (allI I L) 69 L f k (-1) 38 = (-1, 38) := by
        intro f
        induction f with
        | zero => intro k _; rfl
        | succ f ih =>
          intro k hk
          show (if L ≤ k then ((-1 : Int32), (38 : Int32)) else if mostL (allI I L) 69 k = 0 then lp_telling (allI I L) 69 L f (k + 1) (-1) 38 else _) = _
          by_cases z : L ≤ k
          · rw [if_pos z]
          · rw [if_neg z, mq k (by omega), if_pos (mst_zero k fz)]
            exact ih (k + 1) (by omega)
      unfold q_X6_telling
      rw [cl 12 0 rfl, if_pos rfl]
    · rw [if_neg (fun z => c0 ((nI_eq (by omega) (by omega)).mp (z.trans nI_0.symm)))]
      obtain ⟨r0, hr0, fr0⟩ : ∃ r0, r0 < 37 ∧ ft r0 = true := by
        refine Classical.byContradiction (fun no => c0 (cnt_zero (fun r _ hr => ?_)))
        cases q : ft r with
        | false => rfl
        | true => exact absurd ⟨r, by omega, q⟩ no
      have mp : ∀ p, 0 < mst val ft p := fun p => mst_pos p hr0 fr0
      have cl : ∀ f k bst, k + f = 12 → bst < L → bst < k → Ev T_X10_tells 30 [some (mR (some 188)), some (mI x), some (mI (nI bst)), some (mI (nI k))] [] (Y', J) = some (some (mI (if x = 0 then (lp_telling (allI I L) 69 L f k (nI bst) (nI (mst val ft bst))).1 else (lp_telling (allI I L) 69 L f k (nI bst) (nI (mst val ft bst))).2)), (Y', J)) ∧ ¬ (lp_telling (allI I L) 69 L f k (nI bst) (nI (mst val ft bst))).1 = -1 := by
        have fin : ∀ k bst, L ≤ k → bst < L → k ≤ 12 → Ev T_X10_tells 30 [some (mR (some 188)), some (mI x), some (mI (nI bst)), some (mI (nI k))] [] (Y', J) = some (some (mI (if x = 0 then nI bst else nI (mst val ft bst))), (Y', J)) := fun k bst hk hb hk12 => by
          rw [E_X10_tells_30]
          simp only [rl.fi, y36', Option.bind_some, if_pos (nI_le hk (by omega)), rl.kt, if_true, w_mostBy rl b3 L12 hb, asI_I]
          by_cases z : x = 0
          · rw [if_pos z, if_pos z]
          · rw [if_neg z, if_neg z]
        intro f
        induction f with
        | zero =>
          intro k bst hk hb hbk
          exact ⟨fin k bst (by omega) hb (by omega), nI_m1 (show bst < 2 ^ 31 by omega)⟩
        | succ f ih =>
          intro k bst hk hb hbk
          have e : lp_telling (allI I L) 69 L (f + 1) k (nI bst) (nI (mst val ft bst)) = if L ≤ k then (nI bst, nI (mst val ft bst)) else if mostL (allI I L) 69 k = 0 then lp_telling (allI I L) 69 L f (k + 1) (nI bst) (nI (mst val ft bst)) else if nI (mst val ft bst) ≤ nI (mostL (allI I L) 69 k) then lp_telling (allI I L) 69 L f (k + 1) (nI bst) (nI (mst val ft bst)) else lp_telling (allI I L) 69 L f (k + 1) (nI k) (nI (mostL (allI I L) 69 k)) := rfl
          rw [e]
          by_cases z : L ≤ k
          · rw [if_pos z]
            exact ⟨fin k bst z hb (by omega), nI_m1 (show bst < 2 ^ 31 by omega)⟩
          · have hkL : k < L := by omega
            have m1 := mp k
            rw [if_neg z, mq k hkL, if_neg (show ¬ mst val ft k = 0 by omega), E_X10_tells_30]
            simp only [rl.fi, y36', Option.bind_some, if_neg (nI_ge hkL (by omega)), rl.kt, if_true, w_mostBy rl b3 L12 hkL, w_mostBy rl b3 L12 hb, asI_I, nI_1]
            by_cases q : nI (mst val ft bst) ≤ nI (mst val ft k)
            · rw [if_pos q, if_pos q]
              exact ih (k + 1) bst (by omega) hb (by omega)
            · rw [if_neg q, if_neg q]
              exact ih (k + 1) k (by omega) hkL (by omega)
      obtain ⟨r1, r2⟩ := cl 11 1 0 rfl (by omega) (by omega)
      have m0 := mp 0
      have ml := mst_le val ft 0
      have e0 : lp_telling (allI I L) 69 L 12 0 (-1) 38 = lp_telling (allI I L) 69 L 11 1 (nI 0) (nI (mst val ft 0)) := by
        show (if L ≤ 0 then ((-1 : Int32), (38 : Int32)) else if mostL (allI I L) 69 0 = 0 then lp_telling (allI I L) 69 L 11 1 (-1) 38 else if (38 : Int32) ≤ nI (mostL (allI I L) 69 0) then lp_telling (allI I L) 69 L 11 1 (-1) 38 else lp_telling (allI I L) 69 L 11 1 (nI 0) (nI (mostL (allI I L) 69 0))) = _
        rw [if_neg (by omega), mq 0 (by omega), if_neg (by omega), if_neg (show ¬ (38 : Int32) ≤ nI (mst val ft 0) from nI_ge (b := 38) (by omega) (by decide))]
      unfold q_X6_telling
      rw [e0, if_neg r2]
      rw [show (nI 0) = 0 from rfl, show (nI 1) = 1 from rfl] at r1
      rw [r1]
      rw [show (nI 0) = 0 from rfl]
      by_cases z : x = 0
      · rw [if_pos z, if_pos (x01.mpr z)]
      · rw [if_neg z, if_neg (fun q => z (x01.mp q))]

/-! A trace made. -/
theorem alM_sm (s : MH) (n w x : Nat) (h : x < sz s) : Sm s (alM s n w) x := by
  refine ⟨?_, ?_, ?_, ?_⟩
  · funext y; exact if_neg (fun q => absurd h (Nat.not_lt.mpr q.1))
  · funext y; exact if_neg (fun q => absurd h (Nat.not_lt.mpr q.1))
  · funext y
    show (if x = sz s then _ else if sz s ≤ x ∧ _ then _ else _) = _
    rw [if_neg (by omega), if_neg (fun q => by have := q.1; omega)]
  · show (if x = sz s then _ else if sz s ≤ x ∧ _ then _ else _) = _
    rw [if_neg (by omega), if_neg (fun q => by have := q.1; omega)]
/-- routes laid into a row of references, one behind another -/
def RtsK (J : MJ) (z w k : Nat) : Prop := ∀ i, i < k → jR J z i = some (w + 2 * i) ∧ RouL J (w + 2 * i) 12
theorem lp_X6_init {y z w : Nat} : ∀ (f k : Nat) (s : MH), k + f = 12 → y < w → z < w → y ≠ z → kd s y = 6 → s.2.2.1 y 0 = some z → s.2.2.2.1 z = (13, 12) → sz s = w + 2 * k → RtsK s.2 z w k → (∀ x, w ≤ x → x < w + 2 * k → s.1 x = fun _ => 0) →
    ∃ s', Ev T_X6_init 50 [some (mR (some y)), none, none, some (mI (nI k))] [] s = some (none, s') ∧ sz s' = w + 24 ∧ sl s' = sl s + 14 * f ∧ (∀ x, x < w → x ≠ z → Sm s s' x) ∧ s'.1 z = s.1 z ∧ s'.2.1 z = s.2.1 z ∧ s'.2.2.2.1 z = (13, 12) ∧ RtsK s'.2 z w 12 ∧ ∀ x, w ≤ x → x < w + 24 → s'.1 x = fun _ => 0 := by
  intro f
  induction f with
  | zero =>
    intro k s hk ho hz hoz hko hro hsz hc hw hi
    have hk : k = 12 := by omega
    subst hk
    obtain ⟨I, J⟩ := s
    refine ⟨(I, J), ?_, hc, rfl, fun x _ _ => Sm.refl _ x, rfl, rfl, hsz, hw, hi⟩
    rw [E_X6_init_50, fR_ok 0 hko, Option.bind_some, show jR J y 0 = some z from hro, Option.bind_some, aln_ok hsz (by decide), Option.bind_some, if_pos (by decide)]
  | succ f ih =>
    intro k s hk ho hz hoz hko hro hsz hc hw hi
    obtain ⟨s1, e1, g1, p1, z1⟩ := n_X4_12 s
    rw [hc] at p1 z1
    have kz1 : s1.2.2.2.1 z = (13, 12) := (g1.2.2 z (by omega)).2.2.2.trans hsz
    have rz1 : s1.2.2.1 z = s.2.2.1 z := (g1.2.2 z (by omega)).2.2.1
    have hx : ix (nI k) = k := ix_nI (by omega)
    generalize hs2 : sR s1 z k (some (w + 2 * k)) = s2
    have m2 : ∀ x, x ≠ z → Sm s1 s2 x := fun x q => by rw [← hs2]; exact sR_sm s1 _ _ _ x q
    have c2 : sz s2 = w + 2 * (k + 1) := by rw [← hs2]; show sz s1 = _; rw [g1.1, hc]; omega
    have i2 : s2.1 = s1.1 := by rw [← hs2]
    have wk : RtsK s2.2 z w (k + 1) := by
      intro i hik
      by_cases e : i = k
      · subst e
        exact ⟨by rw [← hs2]; exact if_pos ⟨rfl, rfl⟩, p1.bw (b := w + 2 * i + 2) (fun x h1 h2 => ⟨(m2 x (by omega)).2.2.1, (m2 x (by omega)).2.2.2⟩) (by omega)⟩
      · have hi' : i < k := by omega
        have old := hw i hi'
        refine ⟨?_, old.2.bw (b := w + 2 * i + 2) (fun x h1 h2 => ?_) (by omega)⟩
        · rw [← hs2]
          show (if z = z ∧ i = k then _ else s1.2.2.1 z i) = _
          rw [if_neg (fun q => e q.2), rz1]
          exact old.1
        · have q := (g1.2.2 x (by omega)).trans (m2 x (by omega))
          exact ⟨q.2.2.1, q.2.2.2⟩
    have i0 : ∀ x, w ≤ x → x < w + 2 * (k + 1) → s2.1 x = fun _ => 0 := by
      intro x h1 h2
      rw [i2]
      by_cases e : x < w + 2 * k
      · rw [(g1.2.2 x (by omega)).1]
        exact hi x h1 e
      · exact z1 x (by omega) (by omega)
    have so : Sm s s2 y := (g1.2.2 y (by omega)).trans (m2 y hoz)
    have kz2 : s2.2.2.2.1 z = (13, 12) := by rw [← hs2]; exact kz1
    obtain ⟨s', e', q1, q2, q3, q4, q5, q6, q7, q8⟩ := ih (k + 1) s2 (by omega) ho hz hoz ((congrArg Prod.fst so.2.2.2).trans hko) ((congrFun so.2.2.1 0).trans hro) kz2 c2 wk i0
    refine ⟨s', ?_, q1, ?_, fun x h1 h2 => ((g1.2.2 x (by omega)).trans (m2 x h2)).trans (q3 x h1 h2), ?_, ?_, q6, q7, q8⟩
    · obtain ⟨I, J⟩ := s
      have hc' : sz (I, J) = w + 2 * k := hc
      rw [hc'] at e1
      rw [E_X6_init_50, fR_ok 0 hko, Option.bind_some, show jR J y 0 = some z from hro, Option.bind_some, aln_ok hsz (by decide), Option.bind_some, if_neg (show ¬ nI 12 ≤ nI k from nI_ge (show k < 12 by omega) (by decide)), Option.bind_some, hc', if_pos (by have := al_kd (I, J) 4 2; rwa [hc'] at this), e1]
      simp only [Option.bind_some, asV_n]
      have es : stR s1 z (nI k) (some (w + 2 * k)) = some s2 := by
        unfold stR
        rw [if_pos, show (nI k).toNatClampNeg = k from hx, hs2]
        have kk : kd s1 z = 13 := congrArg Prod.fst kz1
        refine ⟨by rw [kk]; decide, ?_, ?_⟩
        · rw [show ln s1 z = 12 from congrArg Prod.snd kz1]
          exact inb_nI (by omega) (by decide)
        · unfold elt
          rw [kk]
          have k4 : kd s1 (w + 2 * k) = 4 := p1.k
          show (13 == 13 && kd s1 (w + 2 * k) == 4 || 13 == 14 && kd s1 (w + 2 * k) == 7 || 13 == 15 && kd s1 (w + 2 * k) == 8) = true
          rw [k4]
          rfl
      rw [es, Option.bind_some, nI_1]
      exact e'
    · rw [q2, show sl s2 = sl s1 by rw [← hs2], g1.2.1]
      omega
    · rw [q4, i2, (g1.2.2 z (by omega)).1]
    · rw [q5, show s2.2.1 = s1.2.1 by rw [← hs2], (g1.2.2 z (by omega)).2.1]
/-- what a trace's own rows are, its memories aside -/
def TrcM (J : MJ) (y b t c : Nat) : Prop := (jS J y).1 = 6 ∧ jR J y 0 = some c ∧ jR J y 3 = some b ∧ jR J y 4 = some t ∧ jR J y 5 = some (c + 1) ∧ jR J y 6 = some (c + 39) ∧ jS J c = (13, 12) ∧ RtsK J c (c + 40) 12 ∧ jS J (c + 1) = (16, 37) ∧ (∀ r, r < 37 → jR J (c + 1) r = some (c + 2 + r) ∧ jS J (c + 2 + r) = (11, 12)) ∧ jS J (c + 39) = (11, 37)
theorem c_X6_init {s : MH} {y b t : Nat} (hy : y < sz s) (hk : s.2.2.2.1 y = (6, 7)) (hi0 : s.1 y = fun _ => 0) : ∃ s', M_X6_init [mR (some y), mR (some b), mR (some t)] s = some (none, s') ∧ sz s' = sz s + 64 ∧ sl s' = sl s + 698 ∧ (∀ x, x < sz s → x ≠ y → Sm s s' x) ∧ s'.2.1 y = s.2.1 y ∧ TrcM s'.2 y b t (sz s) ∧ (s'.1 y = fun j => if j = 2 then -1 else 0) ∧ ∀ x, sz s ≤ x → x < sz s + 64 → s'.1 x = fun _ => 0 := by
  have k0 : kd s y = 6 := congrArg Prod.fst hk
  have a := aws_a y [(13, 12, 0)] s hy
  have w := aws_sz y [(13, 12, 0)] s
  have sm := aws_sm y [(13, 12, 0)] s
  have nn := fun i q hq => aws_new y [(13, 12, 0)] s i q hy hq
  generalize hs1 : aws y [(13, 12, 0)] s = s1 at a w sm nn
  have c1 : sz s1 = sz s + 1 := w.1
  have ka : kd s1 y = 6 := (congrArg Prod.fst a.2.2.1).trans k0
  generalize hs2 : sI s1 y 2 (-1) = s2
  have c2 : sz s2 = sz s + 1 := by rw [← hs2]; exact c1
  have j2 : s2.2 = s1.2 := by rw [← hs2]
  have i2 : ∀ x, x ≠ y → s2.1 x = s1.1 x := fun x hx => by
    rw [← hs2]; funext j; exact if_neg (fun q => hx q.1)
  have i2y : s2.1 y = fun j => if j = 2 then -1 else 0 := by
    rw [← hs2]
    funext j
    show (if y = y ∧ j = 2 then _ else s1.1 y j) = _
    rw [a.1, hi0]
    by_cases e : j = 2
    · rw [if_pos ⟨rfl, e⟩, if_pos e]
    · rw [if_neg (fun q => e q.2), if_neg e]
  have am := alM_sm s2 37 12
  have mS : ∀ x, sz s + 1 ≤ x → x < sz s + 39 → (alM s2 37 12).2.2.2.1 x = if x = sz s + 1 then (16, 37) else (11, 12) := fun x h1 h2 => by
    show (if x = sz s2 then (16, 37) else if sz s2 ≤ x ∧ x < sz s2 + 1 + 37 then (11, 12) else _) = _
    rw [c2]
    by_cases e : x = sz s + 1
    · rw [if_pos e, if_pos e]
    · rw [if_neg e, if_neg e, if_pos ⟨h1, by omega⟩]
  have mR' : ∀ r, r < 37 → (alM s2 37 12).2.2.1 (sz s + 1) r = some (sz s + 2 + r) := fun r hr => by
    show (if sz s + 1 = sz s2 then (if r < 37 then some (sz s2 + 1 + r) else none) else _) = _
    rw [if_pos c2.symm, if_pos hr, c2]
  have mI' : ∀ x, sz s + 1 ≤ x → x < sz s + 39 → (alM s2 37 12).1 x = fun _ => 0 := fun x h1 h2 => by
    funext j
    show (if sz s2 ≤ x ∧ x < sz s2 + 1 + 37 then 0 else _) = _
    rw [c2, if_pos ⟨h1, by omega⟩]
  have mc : sz (alM s2 37 12) = sz s + 39 := by show sz s2 + 1 + 37 = _; omega
  have ml : sl (alM s2 37 12) = sl s + 12 + 481 := by
    show sl s2 + 37 + 37 * 12 = _
    rw [show sl s2 = sl s1 by rw [← hs2], w.2]
    show sl s + 12 + 37 + 37 * 12 = _
    omega
  generalize hs3 : alM s2 37 12 = s3 at am mS mR' mI' mc ml
  have k3 : s3.2.2.2.1 y = (6, 7) := by rw [(am y (by omega)).2.2.2, j2, a.2.2.1, hk]
  have kd3 : kd s3 y = 6 := congrArg Prod.fst k3
  generalize hs4 : sR s3 y 5 (some (sz s + 1)) = s4
  have n4 := aws_new y [(11, 37, 6)] s4 0 _ (by rw [← hs4]; show y < sz s3; omega) rfl
  have a4 := aws_a y [(11, 37, 6)] s4 (by rw [← hs4]; show y < sz s3; omega)
  have w4 := aws_sz y [(11, 37, 6)] s4
  have sm4 := aws_sm y [(11, 37, 6)] s4
  have c4 : sz s4 = sz s + 39 := by rw [← hs4]; exact mc
  have kd4 : kd s4 y = 6 := by rw [← hs4]; exact kd3
  generalize hs5 : aws y [(11, 37, 6)] s4 = s5 at n4 a4 w4 sm4
  have kd5 : kd s5 y = 6 := (congrArg Prod.fst a4.2.2.1).trans kd4
  generalize hs6 : sR (sR s5 y 3 (some b)) y 4 (some t) = s6
  have m6 : ∀ x, x ≠ y → Sm s5 s6 x := fun x q => by rw [← hs6]; exact (sR_sm s5 _ _ _ x q).trans (sR_sm _ _ _ _ x q)
  have m4 : ∀ x, x ≠ y → Sm s3 s4 x := fun x q => by rw [← hs4]; exact sR_sm s3 _ _ _ x q
  have m36 : ∀ x, x < sz s + 39 → x ≠ y → Sm s3 s6 x := fun x h1 h2 => ((m4 x h2).trans (sm4 x (by omega) h2)).trans (m6 x h2)
  have r6 : ∀ k, s6.2.2.1 y k = if k = 4 then some t else if k = 3 then some b else s5.2.2.1 y k := fun k => by
    rw [← hs6]
    show (if y = y ∧ k = 4 then _ else if y = y ∧ k = 3 then _ else _) = _
    by_cases e : k = 4
    · rw [if_pos ⟨rfl, e⟩, if_pos e]
    · rw [if_neg (fun q => e q.2), if_neg e]
      by_cases e2 : k = 3
      · rw [if_pos ⟨rfl, e2⟩, if_pos e2]
      · rw [if_neg (fun q => e2 q.2), if_neg e2]
  have r4y : ∀ k, s4.2.2.1 y k = if k = 5 then some (sz s + 1) else s1.2.2.1 y k := fun k => by
    rw [← hs4]
    show (if y = y ∧ k = 5 then _ else s3.2.2.1 y k) = _
    by_cases e : k = 5
    · rw [if_pos ⟨rfl, e⟩, if_pos e]
    · rw [if_neg (fun q => e q.2), if_neg e, (am y (by omega)).2.2.1, j2]
  have y0 : s6.2.2.1 y 0 = some (sz s) := by
    rw [r6, if_neg (by decide), if_neg (by decide), a4.2.2.2 0]
    show s4.2.2.1 y 0 = _
    rw [r4y, if_neg (by decide)]
    exact a.2.2.2 0
  have y5 : s6.2.2.1 y 5 = some (sz s + 1) := by
    rw [r6, if_neg (by decide), if_neg (by decide), a4.2.2.2 5]
    show s4.2.2.1 y 5 = _
    rw [r4y, if_pos rfl]
  have y6 : s6.2.2.1 y 6 = some (sz s + 39) := by
    rw [r6, if_neg (by decide), if_neg (by decide), a4.2.2.2 6, c4]
    rfl
  have sz6 : sz s6 = sz s + 40 := by
    rw [← hs6]
    show sz s5 = _
    rw [w4.1, c4]
    rfl
  have zS : s6.2.2.2.1 (sz s) = (13, 12) := by
    rw [(m36 (sz s) (by omega) (by omega)).2.2.2, (am (sz s) (by omega)).2.2.2, j2]
    exact (nn 0 _ rfl).2.1
  obtain ⟨s', e', q1, q2, q3, q4, q5, q6, q7, q8⟩ := lp_X6_init (y := y) (z := sz s) (w := sz s + 40) 12 0 s6 rfl (by omega) (by omega) (by omega) (by rw [← hs6]; exact kd5) y0 zS (by omega) (fun i hi => absurd hi (by omega)) (fun x h1 h2 => absurd h2 (by omega))
  have sy : Sm s6 s' y := q3 y (by omega) (by omega)
  have iy5 : s6.1 y = s2.1 y := by
    rw [← hs6]
    show s5.1 y = _
    rw [a4.1, ← hs4]
    show s3.1 y = _
    exact (am y (by omega)).1
  refine ⟨s', ?_, by omega, ?_, ?_, ?_, ?_, ?_, ?_⟩
  · rw [E_X6_init]
    show ((nw (aws y [] s) 13 12).bind fun s1 => (wR s1 6 y 0 (some (sz (aws y [] s)))).bind _) = _
    rw [aw_step k0 hy _ 13 12 0 12 (by decide) (by decide) (by decide)]
    show ((wI (aws y [(13, 12, 0)] s) 6 y 2 (-1)).bind _) = _
    rw [hs1, show wI s1 6 y 2 (-1) = some (sI s1 y 2 (-1)) from if_pos ka, Option.bind_some, hs2, if_pos (by decide)]
    show ((wR (alM s2 37 12) 6 y 5 (some (sz s2))).bind _) = _
    rw [hs3, wR_ok kd3, Option.bind_some, c2, hs4]
    show ((nw (aws y [] s4) 11 37).bind fun s5 => (wR s5 6 y 6 (some (sz (aws y [] s4)))).bind _) = _
    rw [aw_step kd4 (by omega) _ 11 37 6 37 (by decide) (by decide) (by decide)]
    show ((wR (aws y [(11, 37, 6)] s4) 6 y 3 (some b)).bind _) = _
    rw [hs5, wR_ok kd5, Option.bind_some, wR_ok (show kd (sR s5 y 3 (some b)) y = 6 from kd5), Option.bind_some, hs6]
    exact e'
  · rw [q2, show sl s6 = sl s5 by rw [← hs6], w4.2, show sl s4 = sl s3 by rw [← hs4], ml]
    rfl
  · intro x h1 h2
    have u : Sm s1 s2 x := ⟨i2 x h2, by rw [j2], by rw [j2], by rw [j2]⟩
    exact ((((sm x h1 h2).trans u).trans (am x (by omega))).trans (m36 x (by omega) h2)).trans (q3 x (by omega) (by omega))
  · rw [sy.2.1, ← hs6]
    show s5.2.1 y = _
    rw [a4.2.1, ← hs4]
    show s3.2.1 y = _
    rw [(am y (by omega)).2.1, j2, a.2.1]
  · have R : ∀ k, jR s'.2 y k = s6.2.2.1 y k := fun k => congrFun sy.2.2.1 k
    have g6 : ∀ x, sz s + 1 ≤ x → x < sz s + 39 → Sm s3 s' x := fun x h1 h2 => (m36 x h2 (by omega)).trans (q3 x (by omega) (by omega))
    refine ⟨?_, (R 0).trans y0, ?_, ?_, (R 5).trans y5, (R 6).trans y6, q6, q7, ?_, fun r hr => ⟨?_, ?_⟩, ?_⟩
    · show (s'.2.2.2.1 y).1 = 6
      rw [sy.2.2.2, ← hs6]
      exact kd5
    · rw [R 3, r6, if_neg (by decide), if_pos rfl]
    · rw [R 4, r6, if_pos rfl]
    · show s'.2.2.2.1 (sz s + 1) = _
      rw [(g6 (sz s + 1) (by omega) (by omega)).2.2.2, mS _ (by omega) (by omega), if_pos rfl]
    · show s'.2.2.1 (sz s + 1) r = _
      rw [(g6 (sz s + 1) (by omega) (by omega)).2.2.1]
      exact mR' r hr
    · show s'.2.2.2.1 (sz s + 2 + r) = _
      rw [(g6 (sz s + 2 + r) (by omega) (by omega)).2.2.2, mS _ (by omega) (by omega), if_neg (by omega)]
    · show s'.2.2.2.1 (sz s + 39) = _
      rw [(q3 (sz s + 39) (by omega) (by omega)).2.2.2, (m6 (sz s + 39) (by omega)).2.2.2]
      rw [c4] at n4
      exact n4.2.1
  · rw [sy.1, iy5, i2y]
  · intro x h1 h2
    by_cases e40 : sz s + 40 ≤ x
    · exact q8 x e40 (by omega)
    · by_cases e0 : x = sz s
      · subst e0
        rw [q4, (m36 _ (by omega) (by omega)).1, (am _ (by omega)).1, i2 _ (by omega)]
        exact (nn 0 _ rfl).1
      · rw [(q3 x (by omega) (by omega)).1]
        by_cases e39 : x = sz s + 39
        · subst e39
          rw [(m6 _ (by omega)).1]
          rw [c4] at n4
          exact n4.1
        · rw [(m36 x (by omega) (by omega)).1]
          exact mI' x (by omega) (by omega)

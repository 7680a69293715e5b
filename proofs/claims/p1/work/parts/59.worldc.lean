/-! A world made. -/
/-- walkers made: k of them -/
def WksK (J : MJ) (z w k : Nat) : Prop := ∀ i, i < k → jR J z i = some (w + 6 * i) ∧ WalL J (w + 6 * i) (w + 6 * i + 1) (w + 6 * i + 3) ∧ RouL J (w + 6 * i + 1) 12 ∧ BufL J (w + 6 * i + 3)
theorem lp_X8_init {o z w : Nat} : ∀ (f k : Nat) (s : MH), k + f = 4 → o < w → z < w → o ≠ z → kd s o = 8 → s.2.2.1 o 3 = some z → s.2.2.2.1 z = (14, 4) → sz s = w + 6 * k → WksK s.2 z w k → (∀ x, w ≤ x → x < w + 6 * k → s.1 x = fun _ => 0) →
    ∃ s', Ev T_X8_init 40 [some (mR (some o)), none, none, some (mI (nI k))] [] s = some (none, s') ∧ sz s' = w + 24 ∧ sl s' = sl s + 98 * f ∧ (∀ x, x < w → x ≠ z → Sm s s' x) ∧ s'.1 z = s.1 z ∧ s'.2.1 z = s.2.1 z ∧ s'.2.2.2.1 z = (14, 4) ∧ WksK s'.2 z w 4 ∧ ∀ x, w ≤ x → x < w + 24 → s'.1 x = fun _ => 0 := by
  intro f
  induction f with
  | zero =>
    intro k s hk ho hz hoz hko hro hsz hc hw hi
    have hk : k = 4 := by omega
    subst hk
    obtain ⟨I, J⟩ := s
    refine ⟨(I, J), ?_, hc, rfl, fun x _ _ => Sm.refl _ x, rfl, rfl, hsz, hw, hi⟩
    rw [E_X8_init_40, fR_ok 3 hko, Option.bind_some, show jR J o 3 = some z from hro, Option.bind_some, aln_ok hsz (by decide), Option.bind_some, if_pos (by decide)]
  | succ f ih =>
    intro k s hk ho hz hoz hko hro hsz hc hw hi
    obtain ⟨s1, e1, g1, w1, p1, b1, z1⟩ := n_X7 s
    rw [hc] at w1 p1 b1 z1
    have kz1 : s1.2.2.2.1 z = (14, 4) := (g1.2.2 z (by omega)).2.2.2.trans hsz
    have rz1 : s1.2.2.1 z = s.2.2.1 z := (g1.2.2 z (by omega)).2.2.1
    have hx : ix (nI k) = k := ix_nI (by omega)
    generalize hs2 : sR s1 z k (some (w + 6 * k)) = s2
    have m2 : ∀ x, x ≠ z → Sm s1 s2 x := fun x q => by rw [← hs2]; exact sR_sm s1 _ _ _ x q
    have c2 : sz s2 = w + 6 * (k + 1) := by rw [← hs2]; show sz s1 = _; rw [g1.1, hc]; omega
    have i2 : s2.1 = s1.1 := by rw [← hs2]
    have wk : WksK s2.2 z w (k + 1) := by
      intro i hik
      by_cases e : i = k
      · subst e
        have u := fun x (q : x ≠ z) => m2 x q
        refine ⟨by rw [← hs2]; exact if_pos ⟨rfl, rfl⟩, ?_, ?_, ?_⟩
        · unfold WalL
          have q := u (w + 6 * i) (by omega)
          rw [show jS s2.2 (w + 6 * i) = jS s1.2 (w + 6 * i) from q.2.2.2, show jR s2.2 (w + 6 * i) = jR s1.2 (w + 6 * i) from q.2.2.1]
          exact w1
        · unfold RouL
          have q := u (w + 6 * i + 1) (by omega)
          have q' := u (w + 6 * i + 1 + 1) (by omega)
          rw [show jS s2.2 (w + 6 * i + 1) = jS s1.2 (w + 6 * i + 1) from q.2.2.2, show jR s2.2 (w + 6 * i + 1) = jR s1.2 (w + 6 * i + 1) from q.2.2.1, show jS s2.2 (w + 6 * i + 1 + 1) = jS s1.2 (w + 6 * i + 1 + 1) from q'.2.2.2]
          exact p1
        · unfold BufL
          rw [show jS s2.2 (w + 6 * i + 3) = jS s1.2 (w + 6 * i + 3) from (u (w + 6 * i + 3) (by omega)).2.2.2, show jS s2.2 (w + 6 * i + 3 + 1) = jS s1.2 (w + 6 * i + 3 + 1) from (u (w + 6 * i + 3 + 1) (by omega)).2.2.2, show jS s2.2 (w + 6 * i + 3 + 2) = jS s1.2 (w + 6 * i + 3 + 2) from (u (w + 6 * i + 3 + 2) (by omega)).2.2.2]
          exact b1
      · have hi' : i < k := by omega
        have old := hw i hi'
        have u : ∀ x, w + 6 * i ≤ x → x < w + 6 * k → jS s2.2 x = jS s.2 x ∧ jR s2.2 x = jR s.2 x := fun x h1 h2 => by
          have q := (g1.2.2 x (by omega)).trans (m2 x (by omega))
          exact ⟨q.2.2.2, q.2.2.1⟩
        refine ⟨?_, ?_, ?_, ?_⟩
        · rw [← hs2]
          show (if z = z ∧ i = k then _ else s1.2.2.1 z i) = _
          rw [if_neg (fun q => e q.2), rz1]
          exact old.1
        · unfold WalL
          rw [(u (w + 6 * i) (by omega) (by omega)).1, (u (w + 6 * i) (by omega) (by omega)).2]
          exact old.2.1
        · unfold RouL
          rw [(u (w + 6 * i + 1) (by omega) (by omega)).1, (u (w + 6 * i + 1) (by omega) (by omega)).2, (u (w + 6 * i + 1 + 1) (by omega) (by omega)).1]
          exact old.2.2.1
        · unfold BufL
          rw [(u (w + 6 * i + 3) (by omega) (by omega)).1, (u (w + 6 * i + 3 + 1) (by omega) (by omega)).1, (u (w + 6 * i + 3 + 2) (by omega) (by omega)).1]
          exact old.2.2.2
    have i0 : ∀ x, w ≤ x → x < w + 6 * (k + 1) → s2.1 x = fun _ => 0 := by
      intro x h1 h2
      rw [i2]
      by_cases e : x < w + 6 * k
      · rw [(g1.2.2 x (by omega)).1]
        exact hi x h1 e
      · exact z1 x (by omega) (by omega)
    have so : Sm s s2 o := (g1.2.2 o (by omega)).trans (m2 o hoz)
    have kz2 : s2.2.2.2.1 z = (14, 4) := by rw [← hs2]; exact kz1
    obtain ⟨s', e', q1, q2, q3, q4, q5, q6, q7, q8⟩ := ih (k + 1) s2 (by omega) ho hz hoz ((congrArg Prod.fst so.2.2.2).trans hko) ((congrFun so.2.2.1 3).trans hro) kz2 c2 wk i0
    refine ⟨s', ?_, q1, ?_, fun x h1 h2 => ((g1.2.2 x (by omega)).trans (m2 x h2)).trans (q3 x h1 h2), ?_, ?_, q6, q7, q8⟩
    · obtain ⟨I, J⟩ := s
      have hc' : sz (I, J) = w + 6 * k := hc
      rw [hc'] at e1
      rw [E_X8_init_40, fR_ok 3 hko, Option.bind_some, show jR J o 3 = some z from hro, Option.bind_some, aln_ok hsz (by decide), Option.bind_some, if_neg (show ¬ nI 4 ≤ nI k from nI_ge (show k < 4 by omega) (by decide)), Option.bind_some, hc', if_pos (by have := al_kd (I, J) 7 9; rwa [hc'] at this), e1]
      simp only [Option.bind_some, asV_n]
      have es : stR s1 z (nI k) (some (w + 6 * k)) = some s2 := by
        unfold stR
        rw [if_pos, show (nI k).toNatClampNeg = k from hx, hs2]
        have kk : kd s1 z = 14 := congrArg Prod.fst kz1
        refine ⟨by rw [kk]; decide, ?_, ?_⟩
        · rw [show ln s1 z = 4 from congrArg Prod.snd kz1]
          exact inb_nI (by omega) (by decide)
        · unfold elt
          rw [kk]
          have k7 : kd s1 (w + 6 * k) = 7 := w1.k
          show (14 == 13 && kd s1 (w + 6 * k) == 4 || 14 == 14 && kd s1 (w + 6 * k) == 7 || 14 == 15 && kd s1 (w + 6 * k) == 8) = true
          rw [k7]
          rfl
      rw [es, Option.bind_some, nI_1]
      exact e'
    · rw [q2, show sl s2 = sl s1 by rw [← hs2], g1.2.1]
      omega
    · rw [q4, i2, (g1.2.2 z (by omega)).1]
    · rw [q5, show s2.2.1 = s1.2.1 by rw [← hs2], (g1.2.2 z (by omega)).2.1]
theorem c_X8_init {s : MH} {o n m : Nat} (ho : o < sz s) (hk : s.2.2.2.1 o = (8, 4)) (hr : ∀ k, s.2.2.1 o k = none) : ∃ s', M_X8_init [mR (some o), mR (some n), mR (some m)] s = some (none, s') ∧ sz s' = sz s + 26 ∧ sl s' = sl s + 402 ∧ (∀ x, x < sz s → x ≠ o → Sm s s' x) ∧ s'.1 o = s.1 o ∧ s'.2.1 o = s.2.1 o ∧ s'.2.2.2.1 o = (8, 4) ∧ WorL s'.2 o n m (sz s) (sz s + 1) ∧ HanL s'.2 (sz s) ∧ WksL s'.2 (sz s + 1) (sz s + 2) ∧ (∀ x, sz s < x → x < sz s + 26 → s'.1 x = fun _ => 0) ∧ s'.1 (sz s) = fun y => if y < 6 then -1 else 0 := by
  have k0 : kd s o = 8 := congrArg Prod.fst hk
  have a := aws_a o [(11, 6, 2), (14, 4, 3)] s ho
  have w := aws_sz o [(11, 6, 2), (14, 4, 3)] s
  have sm := aws_sm o [(11, 6, 2), (14, 4, 3)] s
  have nn := fun i q hq => aws_new o [(11, 6, 2), (14, 4, 3)] s i q ho hq
  generalize hs1 : aws o [(11, 6, 2), (14, 4, 3)] s = s1 at a w sm nn
  have c1 : sz s1 = sz s + 2 := w.1
  have ka : kd s1 o = 8 := (congrArg Prod.fst a.2.2.1).trans k0
  generalize hs2 : sR (sR s1 o 0 (some n)) o 1 (some m) = s2
  have m2 : ∀ x, x ≠ o → Sm s1 s2 x := fun x q => by rw [← hs2]; exact (sR_sm s1 _ _ _ x q).trans (sR_sm _ _ _ _ x q)
  have i2 : s2.1 = s1.1 := by rw [← hs2]
  have l2 : s2.2.1 = s1.2.1 := by rw [← hs2]
  have k2 : s2.2.2.2 = s1.2.2.2 := by rw [← hs2]
  have r20 : s2.2.2.1 o 0 = some n := by
    rw [← hs2]
    show (if o = o ∧ 0 = 1 then _ else if o = o ∧ 0 = 0 then _ else _) = _
    rw [if_neg (by simp), if_pos ⟨rfl, rfl⟩]
  have r21 : s2.2.2.1 o 1 = some m := by rw [← hs2]; exact if_pos ⟨rfl, rfl⟩
  have r2k : ∀ k, k ≠ 0 → k ≠ 1 → s2.2.2.1 o k = s1.2.2.1 o k := fun k h1 h2 => by
    rw [← hs2]
    show (if o = o ∧ k = 1 then _ else if o = o ∧ k = 0 then _ else _) = _
    rw [if_neg (fun q => h2 q.2), if_neg (fun q => h1 q.2)]
  have r22 : s2.2.2.1 o 2 = some (sz s) := (r2k 2 (by decide) (by decide)).trans (a.2.2.2 2)
  have r23 : s2.2.2.1 o 3 = some (sz s + 1) := (r2k 3 (by decide) (by decide)).trans (a.2.2.2 3)
  have sh : s2.2.2.2.1 (sz s) = (11, 6) := by rw [k2]; exact (nn 0 _ rfl).2.1
  have sh1 : s2.2.2.2.1 (sz s + 1) = (14, 4) := by rw [k2]; exact (nn 1 _ rfl).2.1
  have ko2 : s2.2.2.2.1 o = (8, 4) := by rw [k2, a.2.2.1]; exact hk
  generalize hs3 : ((fun x y => if x = sz s ∧ y < 6 then -1 else s2.1 x y, s2.2) : MH) = s3
  have j3 : s3.2 = s2.2 := by rw [← hs3]
  have i3 : ∀ x, x ≠ sz s → s3.1 x = s2.1 x := fun x q => by
    rw [← hs3]
    funext y
    exact if_neg (fun z => q z.1)
  have i3h : s3.1 (sz s) = fun y => if y < 6 then -1 else 0 := by
    rw [← hs3]
    funext y
    show (if sz s = sz s ∧ y < 6 then _ else s2.1 (sz s) y) = _
    rw [i2, show s1.1 (sz s) = fun _ => 0 from (nn 0 _ rfl).1]
    by_cases e : y < 6
    · rw [if_pos ⟨rfl, e⟩, if_pos e]
    · rw [if_neg (fun z => e z.2), if_neg e]
  obtain ⟨s', e', q1, q2, q3, q4, q5, q6, q7, q8⟩ := lp_X8_init (o := o) (z := sz s + 1) (w := sz s + 2) 4 0 s3 rfl (by omega) (by omega) (by omega) (by rw [show kd s3 o = (s3.2.2.2.1 o).1 from rfl, j3, ko2]) (by rw [j3]; exact r23) (by rw [j3]; exact sh1) (by rw [show sz s3 = s3.2.2.2.2.1 from rfl, j3, k2]; exact c1) (fun i hi => absurd hi (by omega)) (fun x h1 h2 => absurd h2 (by omega))
  have hq : Sm s3 s' (sz s) := q3 (sz s) (by omega) (by omega)
  have hqo : Sm s3 s' o := q3 o (by omega) (by omega)
  refine ⟨s', ?_, q1, ?_, ?_, ?_, ?_, ?_, ?_, ?_, ?_, ?_, ?_⟩
  · rw [E_X8_init]
    show ((nw (aws o [] s) 11 6).bind fun s1 => (wR s1 8 o 2 (some (sz (aws o [] s)))).bind _) = _
    rw [aw_step k0 ho _ 11 6 2 6 (by decide) (by decide) (by decide), aw_step k0 ho _ 14 4 3 4 (by decide) (by decide) (by decide)]
    show ((wR (aws o [(11, 6, 2), (14, 4, 3)] s) 8 o 0 (some n)).bind _) = _
    rw [hs1, wR_ok ka, Option.bind_some, wR_ok (show kd (sR s1 o 0 (some n)) o = 8 from ka), Option.bind_some, hs2]
    obtain ⟨I2, J2⟩ := s2
    rw [fR_ok 2 (show (jS J2 o).1 = 8 from congrArg Prod.fst ko2), Option.bind_some, show jR J2 o 2 = some (sz s) from r22, fill_s sh (by decide)]
    simp only [Option.bind_some, asV_n]
    rw [← hs3] at e'
    exact e'
  · rw [q2, show sl s3 = s3.2.2.2.2.2 from rfl, j3, k2]
    show sl s1 + _ = _
    rw [w.2]
    rfl
  · intro x h1 h2
    have u : Sm s2 s3 x := ⟨i3 x (by omega), by rw [j3], by rw [j3], by rw [j3]⟩
    exact (((sm x h1 h2).trans (m2 x h2)).trans u).trans (q3 x (by omega) (by omega))
  · rw [hqo.1, i3 o (by omega), i2, a.1]
  · rw [hqo.2.1, j3, l2, a.2.1]
  · rw [hqo.2.2.2, j3, ko2]
  · refine ⟨?_, ?_, ?_, ?_, ?_⟩
    · show (s'.2.2.2.1 o).1 = 8
      rw [hqo.2.2.2, j3, ko2]
    · show s'.2.2.1 o 0 = _
      rw [hqo.2.2.1, j3, r20]
    · show s'.2.2.1 o 1 = _
      rw [hqo.2.2.1, j3, r21]
    · show s'.2.2.1 o 2 = _
      rw [hqo.2.2.1, j3, r22]
    · show s'.2.2.1 o 3 = _
      rw [hqo.2.2.1, j3, r23]
  · exact ⟨by show s'.2.2.2.1 (sz s) = _; rw [hq.2.2.2, j3, sh], rfl⟩
  · refine ⟨?_, q7⟩
    show ((13 ≤ (s'.2.2.2.1 (sz s + 1)).1 ∧ (s'.2.2.2.1 (sz s + 1)).1 ≤ 16) ∧ (s'.2.2.2.1 (sz s + 1)).2 = 4)
    rw [q6]
    decide
  · intro x h1 h2
    by_cases e : x = sz s + 1
    · rw [e, q4, i3 _ (by omega), i2]
      exact (nn 1 _ rfl).1
    · exact q8 x (by omega) (by omega)
  · rw [hq.1, i3h]

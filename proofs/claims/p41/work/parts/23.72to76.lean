section
/-! Towards the keeper's constructor: a tape, a history, a reader, a trace. -/
def Bw (J J' : MJ) (a b : Nat) : Prop := ∀ x, a ≤ x → x < b → jR J' x = jR J x ∧ jS J' x = jS J x
theorem NodL.bw {J J' : MJ} {n b : Nat} (h : NodL J n) (g : Bw J J' n b) (e : n + 6 ≤ b) : NodL J' n := by
  unfold NodL
  rw [(g n (by omega) (by omega)).1, (g n (by omega) (by omega)).2, (g (n + 1) (by omega) (by omega)).2, (g (n + 2) (by omega) (by omega)).2, (g (n + 3) (by omega) (by omega)).2, (g (n + 4) (by omega) (by omega)).2, (g (n + 5) (by omega) (by omega)).2]
  exact h
theorem MemL.bw {J J' : MJ} {m n b : Nat} (h : MemL J m n) (g : Bw J J' m b) (e : m + 12 ≤ b) : MemL J' m n := by
  unfold MemL
  rw [(g m (by omega) (by omega)).1, (g m (by omega) (by omega)).2, (g (m + 1) (by omega) (by omega)).2, (g (m + 2) (by omega) (by omega)).2, (g (m + 3) (by omega) (by omega)).2, (g (m + 4) (by omega) (by omega)).2, (g (m + 5) (by omega) (by omega)).2, (g (m + 6) (by omega) (by omega)).2, (g (m + 7) (by omega) (by omega)).2, (g (m + 8) (by omega) (by omega)).2, (g (m + 9) (by omega) (by omega)).2, (g (m + 10) (by omega) (by omega)).2, (g (m + 11) (by omega) (by omega)).2]
  exact h
theorem RouL.bw {J J' : MJ} {r L b : Nat} (h : RouL J r L) (g : Bw J J' r b) (e : r + 2 ≤ b) : RouL J' r L := by
  unfold RouL
  rw [(g r (by omega) (by omega)).1, (g r (by omega) (by omega)).2, (g (r + 1) (by omega) (by omega)).2]
  exact h
theorem TapL.bw {J J' : MJ} {t b : Nat} (h : TapL J t) (g : Bw J J' t b) (e : t + 2 ≤ b) : TapL J' t := by
  unfold TapL
  rw [(g t (by omega) (by omega)).1, (g t (by omega) (by omega)).2, (g (t + 1) (by omega) (by omega)).2]
  exact h
theorem WorL.bw {J J' : MJ} {o n m c z b : Nat} (h : WorL J o n m c z) (g : Bw J J' o b) (e : o + 1 ≤ b) : WorL J' o n m c z := by
  unfold WorL
  rw [(g o (by omega) (by omega)).1, (g o (by omega) (by omega)).2]
  exact h
theorem HanL.bw {J J' : MJ} {c b : Nat} (h : HanL J c) (g : Bw J J' c b) (e : c + 1 ≤ b) : HanL J' c := by
  unfold HanL
  rw [(g c (by omega) (by omega)).2]
  exact h
theorem RdrL.bw {J J' : MJ} {r n b : Nat} (h : RdrL J r n) (g : Bw J J' r b) (e : r + 1 ≤ b) : RdrL J' r n := by
  unfold RdrL
  rw [(g r (by omega) (by omega)).1, (g r (by omega) (by omega)).2]
  exact h
theorem WksL.bw {J J' : MJ} {z w b : Nat} (h : WksL J z w) (g : Bw J J' z b) (e : z < w) (e2 : w + 24 ≤ b) : WksL J' z w := by
  refine ⟨?_, fun k hk => ⟨?_, ?_, ?_, ?_⟩⟩
  · rw [(g z (by omega) (by omega)).2]; exact h.1
  · rw [(g z (by omega) (by omega)).1]; exact (h.2 k hk).1
  · unfold WalL
    rw [(g (w + 6 * k) (by omega) (by omega)).1, (g (w + 6 * k) (by omega) (by omega)).2]
    exact (h.2 k hk).2.1
  · exact (h.2 k hk).2.2.1.bw (fun x h1 h2 => g x (by omega) h2) (by omega)
  · unfold BufL
    rw [(g (w + 6 * k + 3) (by omega) (by omega)).2, (g (w + 6 * k + 3 + 1) (by omega) (by omega)).2, (g (w + 6 * k + 3 + 2) (by omega) (by omega)).2]
    exact (h.2 k hk).2.2.2
theorem HisL.bw {J J' : MJ} {a b : Nat} (h : HisL J a (a + 1)) (g : Bw J J' a b) (e : a + 2 ≤ b) : HisL J' a (a + 1) := by
  unfold HisL
  rw [(g a (by omega) (by omega)).1, (g a (by omega) (by omega)).2, (g (a + 1) (by omega) (by omega)).2]
  exact h
theorem n_X5 (s : MH) : ∃ s', M_X5_init [mR (some (sz s))] (al s 5 2) = some (none, s') ∧ Gw s s' 2 402 ∧ TapL s'.2 (sz s) ∧ ∀ x, sz s ≤ x → x < sz s + 2 → s'.1 x = fun _ => 0 := by
  have h := new_aws s 5 2 [(11, 400, 0)]
  refine ⟨aws (sz s) [(11, 400, 0)] (al s 5 2), ?_, h.1, ⟨congrArg Prod.fst h.2.1, h.2.2.1 0, h.2.2.2.1 0 _ rfl⟩, fun x h1 h2 => h.2.2.2.2 x h1 h2⟩
  have k0 : kd (al s 5 2) (sz s) = 5 := al_kd s 5 2
  have k9 : sz s < sz (al s 5 2) := Nat.lt_succ_self _
  rw [E_X5_init]
  show ((nw (aws (sz s) [] (al s 5 2)) 11 400).bind fun s1 => (wR s1 5 (sz s) 0 (some (sz (aws (sz s) [] (al s 5 2))))).bind _) = _
  rw [aw_step k0 k9 _ 11 400 0 400 (by decide) (by decide) (by decide)]
  rfl
theorem n_X0 (s : MH) : ∃ s', M_X0_init [mR (some (sz s))] (al s 0 3) = some (none, s') ∧ Gw s s' 2 23 ∧ HisL s'.2 (sz s) (sz s + 1) ∧ (∀ k, jR s'.2 (sz s + 1) k = none) ∧ ∀ x, sz s ≤ x → x < sz s + 2 → s'.1 x = fun _ => 0 := by
  have h := new_aws s 0 3 [(15, 20, 0)]
  refine ⟨aws (sz s) [(15, 20, 0)] (al s 0 3), ?_, h.1, ⟨congrArg Prod.fst h.2.1, h.2.2.1 0, h.2.2.2.1 0 _ rfl⟩, fun k => congrFun (aws_new (sz s) [(15, 20, 0)] (al s 0 3) 0 _ (Nat.lt_succ_self _) rfl).2.2 k, fun x h1 h2 => h.2.2.2.2 x h1 h2⟩
  have k0 : kd (al s 0 3) (sz s) = 0 := al_kd s 0 3
  have k9 : sz s < sz (al s 0 3) := Nat.lt_succ_self _
  rw [E_X0_init]
  show ((nw (aws (sz s) [] (al s 0 3)) 15 20).bind fun s1 => (wR s1 0 (sz s) 0 (some (sz (aws (sz s) [] (al s 0 3))))).bind _) = _
  rw [aw_step k0 k9 _ 15 20 0 20 (by decide) (by decide) (by decide)]
  rfl
theorem n_X3 (s : MH) : ∃ s', M_X3_init [mR (some (sz s))] (al s 3 7) = some (none, s') ∧ Gw s s' 7 257 ∧ RdrL s'.2 (sz s) (sz s + 1) ∧ NodL s'.2 (sz s + 1) ∧ (∀ x, sz s < x → x < sz s + 7 → s'.1 x = fun _ => 0) ∧ s'.1 (sz s) = fun y => if y = 2 then -1 else 0 := by
  obtain ⟨s1, e1, g1, l1, z1⟩ := n_X2 (al s 3 7)
  have q1 : sz (al s 3 7) = sz s + 1 := rfl
  rw [q1] at e1 l1 z1
  have k1 : s1.2.2.2.1 (sz s) = (3, 7) := (g1.2.2 (sz s) (Nat.lt_succ_self _)).2.2.2.trans (al_k s 3 7)
  have i1 : s1.1 (sz s) = fun _ => 0 := (g1.2.2 (sz s) (Nat.lt_succ_self _)).1.trans (al_0 s 3 7)
  have kd1 : kd s1 (sz s) = 3 := congrArg Prod.fst k1
  refine ⟨sI (sR s1 (sz s) 0 (some (sz s + 1))) (sz s) 2 (-1), ?_, ⟨?_, ?_, fun x hx => ?_⟩, ?_, ?_, ?_, ?_⟩
  · rw [E_X3_init, if_pos (show kd (al (al s 3 7) 2 7) (sz s + 1) = 2 from al_kd (al s 3 7) 2 7)]
    show (M_X2_init [mR (some (sz s + 1))] (al (al s 3 7) 2 7)).bind _ = _
    rw [e1]
    simp only [Option.bind_some, asV_n]
    rw [wR_ok kd1, Option.bind_some, show wI (sR s1 (sz s) 0 (some (sz (al s 3 7)))) 3 (sz s) 2 (-1) = some (sI (sR s1 (sz s) 0 (some (sz s + 1))) (sz s) 2 (-1)) from if_pos kd1]
    rfl
  · show sz s1 = _
    rw [g1.1]
  · show sl s1 = _
    rw [g1.2.1]
  · have a := (al_sm s 3 7 x (Nat.ne_of_lt hx)).trans (g1.2.2 x (Nat.lt_succ_of_lt hx))
    have b := sR_sm s1 (sz s) 0 (some (sz s + 1)) x (Nat.ne_of_lt hx)
    refine (a.trans b).trans ⟨?_, rfl, rfl, rfl⟩
    funext y
    exact if_neg (fun q => absurd q.1 (Nat.ne_of_lt hx))
  · refine ⟨kd1, ?_⟩
    show (if sz s = sz s ∧ 0 = 0 then some (sz s + 1) else _) = _
    rw [if_pos ⟨rfl, rfl⟩]
  · refine l1.bw (b := sz s + 7) (fun x h1 h2 => ⟨?_, rfl⟩) (by omega)
    funext y
    exact if_neg (fun q => by have := q.1; omega)
  · intro x h1 h2
    funext y
    show (if x = sz s ∧ y = 2 then _ else s1.1 x y) = _
    rw [if_neg (fun q => by have := q.1; omega), z1 x (by omega) (by omega)]
  · funext y
    show (if sz s = sz s ∧ y = 2 then _ else s1.1 (sz s) y) = _
    rw [i1]
    by_cases e : y = 2
    · rw [if_pos ⟨rfl, e⟩, if_pos e]
    · rw [if_neg (fun q => e q.2), if_neg e]
end
section
/-! A trace made. -/
theorem alM_sm (s : MH) (n w x : Nat) (h : x < sz s) : Sm s (alM s n w) x := by
  refine ⟨?_, ?_, ?_, ?_⟩
  · funext y; exact if_neg (fun q => absurd h (Nat.not_lt.mpr q.1))
  · funext y; exact if_neg (fun q => absurd h (Nat.not_lt.mpr q.1))
  · funext y
    show (if x = sz s then _ else if sz s ≤ x ∧ _ then _ else _) = _
    rw [if_neg (by omega), if_neg (fun q => by have := q.1; omega)]
  · show (if x = sz s then _ else if sz s ≤ x ∧ _ then _ else _) = _
    rw [if_neg (by omega), if_neg (fun q => by have := q.1; omega)]
/-- routes laid into a row of references, one behind another -/
def RtsK (J : MJ) (z w k : Nat) : Prop := ∀ i, i < k → jR J z i = some (w + 2 * i) ∧ RouL J (w + 2 * i) 12
theorem lp_X6_init {y z w : Nat} : ∀ (f k : Nat) (s : MH), k + f = 12 → y < w → z < w → y ≠ z → kd s y = 6 → s.2.2.1 y 0 = some z → s.2.2.2.1 z = (13, 12) → sz s = w + 2 * k → RtsK s.2 z w k → (∀ x, w ≤ x → x < w + 2 * k → s.1 x = fun _ => 0) →
    ∃ s', Ev T_X6_init 50 [some (mR (some y)), none, none, some (mI (nI k))] [] s = some (none, s') ∧ sz s' = w + 24 ∧ sl s' = sl s + 14 * f ∧ (∀ x, x < w → x ≠ z → Sm s s' x) ∧ s'.1 z = s.1 z ∧ s'.2.1 z = s.2.1 z ∧ s'.2.2.2.1 z = (13, 12) ∧ RtsK s'.2 z w 12 ∧ ∀ x, w ≤ x → x < w + 24 → s'.1 x = fun _ => 0 := by
  intro f
  induction f with
  | zero =>
    intro k s hk ho hz hoz hko hro hsz hc hw hi
    have hk : k = 12 := by omega
    subst hk
    obtain ⟨I, J⟩ := s
    refine ⟨(I, J), ?_, hc, rfl, fun x _ _ => Sm.refl _ x, rfl, rfl, hsz, hw, hi⟩
    rw [E_X6_init_50, fR_ok 0 hko, Option.bind_some, show jR J y 0 = some z from hro, Option.bind_some, aln_ok hsz (by decide), Option.bind_some, if_pos (by decide)]
  | succ f ih =>
    intro k s hk ho hz hoz hko hro hsz hc hw hi
    obtain ⟨s1, e1, g1, p1, z1⟩ := n_X4_12 s
    rw [hc] at p1 z1
    have kz1 : s1.2.2.2.1 z = (13, 12) := (g1.2.2 z (by omega)).2.2.2.trans hsz
    have rz1 : s1.2.2.1 z = s.2.2.1 z := (g1.2.2 z (by omega)).2.2.1
    have hx : ix (nI k) = k := ix_nI (by omega)
    generalize hs2 : sR s1 z k (some (w + 2 * k)) = s2
    have m2 : ∀ x, x ≠ z → Sm s1 s2 x := fun x q => by rw [← hs2]; exact sR_sm s1 _ _ _ x q
    have c2 : sz s2 = w + 2 * (k + 1) := by rw [← hs2]; show sz s1 = _; rw [g1.1, hc]; omega
    have i2 : s2.1 = s1.1 := by rw [← hs2]
    have wk : RtsK s2.2 z w (k + 1) := by
      intro i hik
      by_cases e : i = k
      · subst e
        exact ⟨by rw [← hs2]; exact if_pos ⟨rfl, rfl⟩, p1.bw (b := w + 2 * i + 2) (fun x h1 h2 => ⟨(m2 x (by omega)).2.2.1, (m2 x (by omega)).2.2.2⟩) (by omega)⟩
      · have hi' : i < k := by omega
        have old := hw i hi'
        refine ⟨?_, old.2.bw (b := w + 2 * i + 2) (fun x h1 h2 => ?_) (by omega)⟩
        · rw [← hs2]
          show (if z = z ∧ i = k then _ else s1.2.2.1 z i) = _
          rw [if_neg (fun q => e q.2), rz1]
          exact old.1
        · have q := (g1.2.2 x (by omega)).trans (m2 x (by omega))
          exact ⟨q.2.2.1, q.2.2.2⟩
    have i0 : ∀ x, w ≤ x → x < w + 2 * (k + 1) → s2.1 x = fun _ => 0 := by
      intro x h1 h2
      rw [i2]
      by_cases e : x < w + 2 * k
      · rw [(g1.2.2 x (by omega)).1]
        exact hi x h1 e
      · exact z1 x (by omega) (by omega)
    have so : Sm s s2 y := (g1.2.2 y (by omega)).trans (m2 y hoz)
    have kz2 : s2.2.2.2.1 z = (13, 12) := by rw [← hs2]; exact kz1
    obtain ⟨s', e', q1, q2, q3, q4, q5, q6, q7, q8⟩ := ih (k + 1) s2 (by omega) ho hz hoz ((congrArg Prod.fst so.2.2.2).trans hko) ((congrFun so.2.2.1 0).trans hro) kz2 c2 wk i0
    refine ⟨s', ?_, q1, ?_, fun x h1 h2 => ((g1.2.2 x (by omega)).trans (m2 x h2)).trans (q3 x h1 h2), ?_, ?_, q6, q7, q8⟩
    · obtain ⟨I, J⟩ := s
      have hc' : sz (I, J) = w + 2 * k := hc
      rw [hc'] at e1
      rw [E_X6_init_50, fR_ok 0 hko, Option.bind_some, show jR J y 0 = some z from hro, Option.bind_some, aln_ok hsz (by decide), Option.bind_some, if_neg (show ¬ nI 12 ≤ nI k from nI_ge (show k < 12 by omega) (by decide)), Option.bind_some, hc', if_pos (by have := al_kd (I, J) 4 2; rwa [hc'] at this), e1]
      simp only [Option.bind_some, asV_n]
      have es : stR s1 z (nI k) (some (w + 2 * k)) = some s2 := by
        unfold stR
        rw [if_pos, show (nI k).toNatClampNeg = k from hx, hs2]
        have kk : kd s1 z = 13 := congrArg Prod.fst kz1
        refine ⟨by rw [kk]; decide, ?_, ?_⟩
        · rw [show ln s1 z = 12 from congrArg Prod.snd kz1]
          exact inb_nI (by omega) (by decide)
        · unfold elt
          rw [kk]
          have k4 : kd s1 (w + 2 * k) = 4 := p1.k
          show (13 == 13 && kd s1 (w + 2 * k) == 4 || 13 == 14 && kd s1 (w + 2 * k) == 7 || 13 == 15 && kd s1 (w + 2 * k) == 8) = true
          rw [k4]
          rfl
      rw [es, Option.bind_some, nI_1]
      exact e'
    · rw [q2, show sl s2 = sl s1 by rw [← hs2], g1.2.1]
      omega
    · rw [q4, i2, (g1.2.2 z (by omega)).1]
    · rw [q5, show s2.2.1 = s1.2.1 by rw [← hs2], (g1.2.2 z (by omega)).2.1]
/-- what a trace's own rows are, its memories aside -/
def TrcM (J : MJ) (y b t c : Nat) : Prop := (jS J y).1 = 6 ∧ jR J y 0 = some c ∧ jR J y 3 = some b ∧ jR J y 4 = some t ∧ jR J y 5 = some (c + 1) ∧ jR J y 6 = some (c + 39) ∧ jS J c = (13, 12) ∧ RtsK J c (c + 40) 12 ∧ jS J (c + 1) = (16, 37) ∧ (∀ r, r < 37 → jR J (c + 1) r = some (c + 2 + r) ∧ jS J (c + 2 + r) = (11, 12)) ∧ jS J (c + 39) = (11, 37)
theorem c_X6_init {s : MH} {y b t : Nat} (hy : y < sz s) (hk : s.2.2.2.1 y = (6, 7)) (hi0 : s.1 y = fun _ => 0) : ∃ s', M_X6_init [mR (some y), mR (some b), mR (some t)] s = some (none, s') ∧ sz s' = sz s + 64 ∧ sl s' = sl s + 698 ∧ (∀ x, x < sz s → x ≠ y → Sm s s' x) ∧ s'.2.1 y = s.2.1 y ∧ TrcM s'.2 y b t (sz s) ∧ (s'.1 y = fun j => if j = 2 then -1 else 0) ∧ ∀ x, sz s ≤ x → x < sz s + 64 → s'.1 x = fun _ => 0 := by
  have k0 : kd s y = 6 := congrArg Prod.fst hk
  have a := aws_a y [(13, 12, 0)] s hy
  have w := aws_sz y [(13, 12, 0)] s
  have sm := aws_sm y [(13, 12, 0)] s
  have nn := fun i q hq => aws_new y [(13, 12, 0)] s i q hy hq
  generalize hs1 : aws y [(13, 12, 0)] s = s1 at a w sm nn
  have c1 : sz s1 = sz s + 1 := w.1
  have ka : kd s1 y = 6 := (congrArg Prod.fst a.2.2.1).trans k0
  generalize hs2 : sI s1 y 2 (-1) = s2
  have c2 : sz s2 = sz s + 1 := by rw [← hs2]; exact c1
  have j2 : s2.2 = s1.2 := by rw [← hs2]
  have i2 : ∀ x, x ≠ y → s2.1 x = s1.1 x := fun x hx => by
    rw [← hs2]; funext j; exact if_neg (fun q => hx q.1)
  have i2y : s2.1 y = fun j => if j = 2 then -1 else 0 := by
    rw [← hs2]
    funext j
    show (if y = y ∧ j = 2 then _ else s1.1 y j) = _
    rw [a.1, hi0]
    by_cases e : j = 2
    · rw [if_pos ⟨rfl, e⟩, if_pos e]
    · rw [if_neg (fun q => e q.2), if_neg e]
  have am := alM_sm s2 37 12
  have mS : ∀ x, sz s + 1 ≤ x → x < sz s + 39 → (alM s2 37 12).2.2.2.1 x = if x = sz s + 1 then (16, 37) else (11, 12) := fun x h1 h2 => by
    show (if x = sz s2 then (16, 37) else if sz s2 ≤ x ∧ x < sz s2 + 1 + 37 then (11, 12) else _) = _
    rw [c2]
    by_cases e : x = sz s + 1
    · rw [if_pos e, if_pos e]
    · rw [if_neg e, if_neg e, if_pos ⟨h1, by omega⟩]
  have mR' : ∀ r, r < 37 → (alM s2 37 12).2.2.1 (sz s + 1) r = some (sz s + 2 + r) := fun r hr => by
    show (if sz s + 1 = sz s2 then (if r < 37 then some (sz s2 + 1 + r) else none) else _) = _
    rw [if_pos c2.symm, if_pos hr, c2]
  have mI' : ∀ x, sz s + 1 ≤ x → x < sz s + 39 → (alM s2 37 12).1 x = fun _ => 0 := fun x h1 h2 => by
    funext j
    show (if sz s2 ≤ x ∧ x < sz s2 + 1 + 37 then 0 else _) = _
    rw [c2, if_pos ⟨h1, by omega⟩]
  have mc : sz (alM s2 37 12) = sz s + 39 := by show sz s2 + 1 + 37 = _; omega
  have ml : sl (alM s2 37 12) = sl s + 12 + 481 := by
    show sl s2 + 37 + 37 * 12 = _
    rw [show sl s2 = sl s1 by rw [← hs2], w.2]
    show sl s + 12 + 37 + 37 * 12 = _
    omega
  generalize hs3 : alM s2 37 12 = s3 at am mS mR' mI' mc ml
  have k3 : s3.2.2.2.1 y = (6, 7) := by rw [(am y (by omega)).2.2.2, j2, a.2.2.1, hk]
  have kd3 : kd s3 y = 6 := congrArg Prod.fst k3
  generalize hs4 : sR s3 y 5 (some (sz s + 1)) = s4
  have n4 := aws_new y [(11, 37, 6)] s4 0 _ (by rw [← hs4]; show y < sz s3; omega) rfl
  have a4 := aws_a y [(11, 37, 6)] s4 (by rw [← hs4]; show y < sz s3; omega)
  have w4 := aws_sz y [(11, 37, 6)] s4
  have sm4 := aws_sm y [(11, 37, 6)] s4
  have c4 : sz s4 = sz s + 39 := by rw [← hs4]; exact mc
  have kd4 : kd s4 y = 6 := by rw [← hs4]; exact kd3
  generalize hs5 : aws y [(11, 37, 6)] s4 = s5 at n4 a4 w4 sm4
  have kd5 : kd s5 y = 6 := (congrArg Prod.fst a4.2.2.1).trans kd4
  generalize hs6 : sR (sR s5 y 3 (some b)) y 4 (some t) = s6
  have m6 : ∀ x, x ≠ y → Sm s5 s6 x := fun x q => by rw [← hs6]; exact (sR_sm s5 _ _ _ x q).trans (sR_sm _ _ _ _ x q)
  have m4 : ∀ x, x ≠ y → Sm s3 s4 x := fun x q => by rw [← hs4]; exact sR_sm s3 _ _ _ x q
  have m36 : ∀ x, x < sz s + 39 → x ≠ y → Sm s3 s6 x := fun x h1 h2 => ((m4 x h2).trans (sm4 x (by omega) h2)).trans (m6 x h2)
  have r6 : ∀ k, s6.2.2.1 y k = if k = 4 then some t else if k = 3 then some b else s5.2.2.1 y k := fun k => by
    rw [← hs6]
    show (if y = y ∧ k = 4 then _ else if y = y ∧ k = 3 then _ else _) = _
    by_cases e : k = 4
    · rw [if_pos ⟨rfl, e⟩, if_pos e]
    · rw [if_neg (fun q => e q.2), if_neg e]
      by_cases e2 : k = 3
      · rw [if_pos ⟨rfl, e2⟩, if_pos e2]
      · rw [if_neg (fun q => e2 q.2), if_neg e2]
  have r4y : ∀ k, s4.2.2.1 y k = if k = 5 then some (sz s + 1) else s1.2.2.1 y k := fun k => by
    rw [← hs4]
    show (if y = y ∧ k = 5 then _ else s3.2.2.1 y k) = _
    by_cases e : k = 5
    · rw [if_pos ⟨rfl, e⟩, if_pos e]
    · rw [if_neg (fun q => e q.2), if_neg e, (am y (by omega)).2.2.1, j2]
  have y0 : s6.2.2.1 y 0 = some (sz s) := by
    rw [r6, if_neg (by decide), if_neg (by decide), a4.2.2.2 0]
    show s4.2.2.1 y 0 = _
    rw [r4y, if_neg (by decide)]
    exact a.2.2.2 0
  have y5 : s6.2.2.1 y 5 = some (sz s + 1) := by
    rw [r6, if_neg (by decide), if_neg (by decide), a4.2.2.2 5]
    show s4.2.2.1 y 5 = _
    rw [r4y, if_pos rfl]
  have y6 : s6.2.2.1 y 6 = some (sz s + 39) := by
    rw [r6, if_neg (by decide), if_neg (by decide), a4.2.2.2 6, c4]
    rfl
  have sz6 : sz s6 = sz s + 40 := by
    rw [← hs6]
    show sz s5 = _
    rw [w4.1, c4]
    rfl
  have zS : s6.2.2.2.1 (sz s) = (13, 12) := by
    rw [(m36 (sz s) (by omega) (by omega)).2.2.2, (am (sz s) (by omega)).2.2.2, j2]
    exact (nn 0 _ rfl).2.1
  obtain ⟨s', e', q1, q2, q3, q4, q5, q6, q7, q8⟩ := lp_X6_init (y := y) (z := sz s) (w := sz s + 40) 12 0 s6 rfl (by omega) (by omega) (by omega) (by rw [← hs6]; exact kd5) y0 zS (by omega) (fun i hi => absurd hi (by omega)) (fun x h1 h2 => absurd h2 (by omega))
  have sy : Sm s6 s' y := q3 y (by omega) (by omega)
  have iy5 : s6.1 y = s2.1 y := by
    rw [← hs6]
    show s5.1 y = _
    rw [a4.1, ← hs4]
    show s3.1 y = _
    exact (am y (by omega)).1
  refine ⟨s', ?_, by omega, ?_, ?_, ?_, ?_, ?_, ?_⟩
  · rw [E_X6_init]
    show ((nw (aws y [] s) 13 12).bind fun s1 => (wR s1 6 y 0 (some (sz (aws y [] s)))).bind _) = _
    rw [aw_step k0 hy _ 13 12 0 12 (by decide) (by decide) (by decide)]
    show ((wI (aws y [(13, 12, 0)] s) 6 y 2 (-1)).bind _) = _
    rw [hs1, show wI s1 6 y 2 (-1) = some (sI s1 y 2 (-1)) from if_pos ka, Option.bind_some, hs2, if_pos (by decide)]
    show ((wR (alM s2 37 12) 6 y 5 (some (sz s2))).bind _) = _
    rw [hs3, wR_ok kd3, Option.bind_some, c2, hs4]
    show ((nw (aws y [] s4) 11 37).bind fun s5 => (wR s5 6 y 6 (some (sz (aws y [] s4)))).bind _) = _
    rw [aw_step kd4 (by omega) _ 11 37 6 37 (by decide) (by decide) (by decide)]
    show ((wR (aws y [(11, 37, 6)] s4) 6 y 3 (some b)).bind _) = _
    rw [hs5, wR_ok kd5, Option.bind_some, wR_ok (show kd (sR s5 y 3 (some b)) y = 6 from kd5), Option.bind_some, hs6]
    exact e'
  · rw [q2, show sl s6 = sl s5 by rw [← hs6], w4.2, show sl s4 = sl s3 by rw [← hs4], ml]
    rfl
  · intro x h1 h2
    have u : Sm s1 s2 x := ⟨i2 x h2, by rw [j2], by rw [j2], by rw [j2]⟩
    exact ((((sm x h1 h2).trans u).trans (am x (by omega))).trans (m36 x (by omega) h2)).trans (q3 x (by omega) (by omega))
  · rw [sy.2.1, ← hs6]
    show s5.2.1 y = _
    rw [a4.2.1, ← hs4]
    show s3.2.1 y = _
    rw [(am y (by omega)).2.1, j2, a.2.1]
  · have R : ∀ k, jR s'.2 y k = s6.2.2.1 y k := fun k => congrFun sy.2.2.1 k
    have g6 : ∀ x, sz s + 1 ≤ x → x < sz s + 39 → Sm s3 s' x := fun x h1 h2 => (m36 x h2 (by omega)).trans (q3 x (by omega) (by omega))
    refine ⟨?_, (R 0).trans y0, ?_, ?_, (R 5).trans y5, (R 6).trans y6, q6, q7, ?_, fun r hr => ⟨?_, ?_⟩, ?_⟩
    · show (s'.2.2.2.1 y).1 = 6
      rw [sy.2.2.2, ← hs6]
      exact kd5
    · rw [R 3, r6, if_neg (by decide), if_pos rfl]
    · rw [R 4, r6, if_pos rfl]
    · show s'.2.2.2.1 (sz s + 1) = _
      rw [(g6 (sz s + 1) (by omega) (by omega)).2.2.2, mS _ (by omega) (by omega), if_pos rfl]
    · show s'.2.2.1 (sz s + 1) r = _
      rw [(g6 (sz s + 1) (by omega) (by omega)).2.2.1]
      exact mR' r hr
    · show s'.2.2.2.1 (sz s + 2 + r) = _
      rw [(g6 (sz s + 2 + r) (by omega) (by omega)).2.2.2, mS _ (by omega) (by omega), if_neg (by omega)]
    · show s'.2.2.2.1 (sz s + 39) = _
      rw [(q3 (sz s + 39) (by omega) (by omega)).2.2.2, (m6 (sz s + 39) (by omega)).2.2.2]
      rw [c4] at n4
      exact n4.2.1
  · rw [sy.1, iy5, i2y]
  · intro x h1 h2
    by_cases e40 : sz s + 40 ≤ x
    · exact q8 x e40 (by omega)
    · by_cases e0 : x = sz s
      · subst e0
        rw [q4, (m36 _ (by omega) (by omega)).1, (am _ (by omega)).1, i2 _ (by omega)]
        exact (nn 0 _ rfl).1
      · rw [(q3 x (by omega) (by omega)).1]
        by_cases e39 : x = sz s + 39
        · subst e39
          rw [(m6 _ (by omega)).1]
          rw [c4] at n4
          exact n4.1
        · rw [(m36 x (by omega) (by omega)).1]
          exact mI' x (by omega) (by omega)
end
section
/-! The keeper made. Written by gen/ctor9.py. -/
def Zx (s s' : MH) : Prop := (∀ x, 0 < x → x < sz s → Sm s s' x) ∧ sz s ≤ sz s'
theorem Zx.trans {a b c : MH} (h : Zx a b) (g : Zx b c) : Zx a c := ⟨fun x h0 h1 => (h.1 x h0 h1).trans (g.1 x h0 (Nat.lt_of_lt_of_le h1 h.2)), Nat.le_trans h.2 g.2⟩
theorem Zx.refl (s : MH) : Zx s s := ⟨fun x _ _ => Sm.refl s x, Nat.le_refl _⟩
theorem Gw.zx {s s' : MH} {n m : Nat} (h : Gw s s' n m) : Zx s s' := ⟨fun x _ h1 => h.2.2 x h1, by rw [h.1]; omega⟩
theorem sR0_zx (s : MH) (k : Nat) (v : Option Nat) : Zx s (sR s 0 k v) := ⟨fun x h0 _ => sR_sm s 0 k v x (by omega), Nat.le_refl _⟩
theorem Zx.bw {s s' : MH} (h : Zx s s') {a b : Nat} (h0 : 0 < a) (hb : b ≤ sz s) : Bw s.2 s'.2 a b := fun x h1 h2 => ⟨(h.1 x (by omega) (by omega)).2.2.1, (h.1 x (by omega) (by omega)).2.2.2⟩
/-- what is kept of cell 0: its ints, its shape -/
def C0 (s s' : MH) : Prop := s'.1 0 = s.1 0 ∧ s'.2.2.2.1 0 = s.2.2.2.1 0 ∧ s'.2.1 0 = s.2.1 0
theorem C0.trans {a b c : MH} (h : C0 a b) (g : C0 b c) : C0 a c := ⟨g.1.trans h.1, g.2.1.trans h.2.1, g.2.2.trans h.2.2⟩
theorem Sm.c0 {s s' : MH} (h : Sm s s' 0) : C0 s s' := ⟨h.1, h.2.2.2, h.2.1⟩
theorem sR_c0 (s : MH) (a k : Nat) (v : Option Nat) : C0 s (sR s a k v) := ⟨rfl, rfl, rfl⟩
theorem sR_r0 (s : MH) (k : Nat) (v : Option Nat) (j : Nat) : (sR s 0 k v).2.2.1 0 j = if j = k then v else s.2.2.1 0 j := by
  show (if 0 = 0 ∧ j = k then v else s.2.2.1 0 j) = _
  by_cases e : j = k
  · rw [if_pos ⟨rfl, e⟩, if_pos e]
  · rw [if_neg (fun q => e q.2), if_neg e]
/-- told routes so far -/
def TolK (J : MJ) (k : Nat) : Prop := ∀ i, i < k → jR J 162 i = some (rr 158 i) ∧ RouL J (rr 158 i) 12
theorem lp_X9_init : ∀ (f k : Nat) (s : MH), k + f = 12 → 2 ≤ k → kd s 0 = 9 → s.2.2.1 0 8 = some 162 → s.2.2.2.1 162 = (13, 12) → sz s = 159 + 2 * k → TolK s.2 k → (∀ x, 163 ≤ x → x < 159 + 2 * k → s.1 x = fun _ => 0) →
    ∃ s', Ev T_X9_init 161 [some (mR (some 0)), none, some (mI (nI k))] [] s = Ev T_X9_init 161 [some (mR (some 0)), none, some (mI (nI 12))] [] s' ∧ sz s' = 183 ∧ sl s' = sl s + 14 * f ∧ (∀ x, x < 163 → x ≠ 162 → Sm s s' x) ∧ s'.1 162 = s.1 162 ∧ s'.2.2.2.1 162 = (13, 12) ∧ TolK s'.2 12 ∧ ∀ x, 163 ≤ x → x < 183 → s'.1 x = fun _ => 0 := by
  intro f
  induction f with
  | zero =>
    intro k s hk h2 hko hro hsz hc hw hi
    have hk : k = 12 := by omega
    subst hk
    exact ⟨s, rfl, hc, rfl, fun x _ _ => Sm.refl _ x, rfl, hsz, hw, hi⟩
  | succ f ih =>
    intro k s hk h2 hko hro hsz hc hw hi
    obtain ⟨s1, e1, g1, p1, z1⟩ := n_X4_12 s
    have er : rr 158 k = 159 + 2 * k := by unfold rr; rw [if_neg (by omega)]; omega
    rw [hc] at p1 z1
    have kz1 : s1.2.2.2.1 162 = (13, 12) := (g1.2.2 162 (by omega)).2.2.2.trans hsz
    have rz1 : s1.2.2.1 162 = s.2.2.1 162 := (g1.2.2 162 (by omega)).2.2.1
    have hx : ix (nI k) = k := ix_nI (by omega)
    generalize hs2 : sR s1 162 k (some (159 + 2 * k)) = s2
    have m2 : ∀ x, x ≠ 162 → Sm s1 s2 x := fun x q => by rw [← hs2]; exact sR_sm s1 _ _ _ x q
    have c2 : sz s2 = 159 + 2 * (k + 1) := by rw [← hs2]; show sz s1 = _; rw [g1.1, hc]; omega
    have i2 : s2.1 = s1.1 := by rw [← hs2]
    have wk : TolK s2.2 (k + 1) := by
      intro i hik
      by_cases e : i = k
      · subst e
        rw [er]
        exact ⟨by rw [← hs2]; exact if_pos ⟨rfl, rfl⟩, p1.bw (b := 159 + 2 * i + 2) (fun x h1 h2 => ⟨(m2 x (by omega)).2.2.1, (m2 x (by omega)).2.2.2⟩) (by omega)⟩
      · have hi' : i < k := by omega
        have old := hw i hi'
        have hrr : rr 158 i + 2 ≤ 162 ∨ (163 ≤ rr 158 i ∧ rr 158 i + 2 ≤ 159 + 2 * k) := by unfold rr; split <;> omega
        refine ⟨?_, old.2.bw (b := rr 158 i + 2) (fun x h1 h2 => ?_) (by omega)⟩
        · rw [← hs2]
          show (if 162 = 162 ∧ i = k then _ else s1.2.2.1 162 i) = _
          rw [if_neg (fun q => e q.2), rz1]
          exact old.1
        · have q := (g1.2.2 x (by omega)).trans (m2 x (by omega))
          exact ⟨q.2.2.1, q.2.2.2⟩
    have i0 : ∀ x, 163 ≤ x → x < 159 + 2 * (k + 1) → s2.1 x = fun _ => 0 := by
      intro x h1 h2
      rw [i2]
      by_cases e : x < 159 + 2 * k
      · rw [(g1.2.2 x (by omega)).1]
        exact hi x h1 e
      · exact z1 x (by omega) (by omega)
    have so : Sm s s2 0 := (g1.2.2 0 (by omega)).trans (m2 0 (by omega))
    have kz2 : s2.2.2.2.1 162 = (13, 12) := by rw [← hs2]; exact kz1
    obtain ⟨s', e', q1, q2, q3, q4, q6, q7, q8⟩ := ih (k + 1) s2 (by omega) (by omega) ((congrArg Prod.fst so.2.2.2).trans hko) ((congrFun so.2.2.1 8).trans hro) kz2 c2 wk i0
    refine ⟨s', ?_, q1, ?_, fun x h1 h2 => ((g1.2.2 x (by omega)).trans (m2 x h2)).trans (q3 x h1 h2), ?_, q6, q7, q8⟩
    · rw [← e']
      obtain ⟨I, J⟩ := s
      have hc' : sz (I, J) = 159 + 2 * k := hc
      rw [hc'] at e1
      rw [E_X9_init_161, fR_ok 8 hko, Option.bind_some, show jR J 0 8 = some 162 from hro, Option.bind_some, aln_ok hsz (by decide), Option.bind_some, if_neg (show ¬ nI 12 ≤ nI k from nI_ge (show k < 12 by omega) (by decide)), Option.bind_some, hc', if_pos (by have := al_kd (I, J) 4 2; rwa [hc'] at this), e1]
      simp only [Option.bind_some, asV_n]
      have es : stR s1 162 (nI k) (some (159 + 2 * k)) = some s2 := by
        unfold stR
        rw [if_pos, show (nI k).toNatClampNeg = k from hx, hs2]
        have kk : kd s1 162 = 13 := congrArg Prod.fst kz1
        refine ⟨by rw [kk]; decide, ?_, ?_⟩
        · rw [show ln s1 162 = 12 from congrArg Prod.snd kz1]
          exact inb_nI (by omega) (by decide)
        · unfold elt
          rw [kk]
          have k4 : kd s1 (159 + 2 * k) = 4 := p1.k
          show (13 == 13 && kd s1 (159 + 2 * k) == 4 || 13 == 14 && kd s1 (159 + 2 * k) == 7 || 13 == 15 && kd s1 (159 + 2 * k) == 8) = true
          rw [k4]
          rfl
      rw [es, Option.bind_some, nI_1]
    · rw [q2, show sl s2 = sl s1 by rw [← hs2], g1.2.1]
      omega
    · rw [q4, i2, (g1.2.2 162 (by omega)).1]
end
section
/-! The keeper made. Written by gen/ctor9b.py. -/
theorem Sm.rs {s s' : MH} {x : Nat} (h : Sm s s' x) : jR s'.2 x = jR s.2 x ∧ jS s'.2 x = jS s.2 x := ⟨h.2.2.1, h.2.2.2⟩
theorem kdal {s : MH} {d n c : Nat} (h : sz s = c) : kd (al s d n) c = d := by subst h; exact al_kd s d n
def iniM (m x y : Nat) : Int32 := if (x = m + 9 ∨ x = m + 10) ∧ y < 3 then -1 else 0
def ini (x y : Nat) : Int32 := if x = 9 then (if y = 2 then -1 else 0) else if x < 17 then 0 else if x < 29 then iniM 17 x y else if x = 29 then (if y < 6 then -1 else 0) else if x < 55 then 0 else if x < 67 then iniM 55 x y else if x < 69 then 0 else if x = 69 then (if y = 2 then -1 else 0) else if x < 82 then iniM 70 x y else if x < 94 then iniM 82 x y else 0
theorem c_X9_init {s : MH} (c0 : sz s = 1) (hk : s.2.2.2.1 0 = (9, 16)) (hi : s.1 0 = fun _ => 0) : ∃ s', M_X9_init [mR (some 0)] s = some (none, s') ∧ sz s' = 188 ∧ sl s' = sl s + 4743 ∧ KL s'.2 ∧ (∀ k, jR s'.2 68 k = none) ∧ s'.2.1 0 15 = 1 ∧ ∀ x, x < 188 → s'.1 x = ini x := by
  have k0 : kd s 0 = 9 := congrArg Prod.fst hk
  obtain ⟨s1, es1, gs1, l1, z1⟩ := n_X2 s
  rw [c0] at es1 l1 z1
  have cs1 : sz s1 = 7 := by rw [gs1.1, c0]
  obtain ⟨u2, eu2, gu2, l2, z2⟩ := n_X5 s1
  rw [cs1] at eu2 l2 z2
  have cu2 : sz u2 = 9 := by rw [gu2.1, cs1]
  generalize hs3 : sR u2 0 0 (some 7) = s3
  have cs3 : sz s3 = sz u2 := by rw [← hs3]
  have bs3 : sl s3 = sl u2 := by rw [← hs3]
  have ms3 : ∀ x, x ≠ 0 → Sm u2 s3 x := fun x q => by rw [← hs3]; exact sR_sm u2 _ _ _ x q
  have os3 : C0 u2 s3 := by rw [← hs3]; exact sR_c0 _ _ _ _
  have rs3 : ∀ j, s3.2.2.1 0 j = if j = 0 then some 7 else u2.2.2.1 0 j := fun j => by rw [← hs3]; exact sR_r0 _ _ _ j
  have ds3 : sz s3 = 9 := by rw [cs3, cu2]
  obtain ⟨u4, eu4, gu4, l4, l4n, z4, z4r⟩ := n_X3 s3
  rw [ds3] at eu4 l4 l4n z4 z4r
  have cu4 : sz u4 = 16 := by rw [gu4.1, ds3]
  generalize hs5 : sR u4 0 1 (some 9) = s5
  have cs5 : sz s5 = sz u4 := by rw [← hs5]
  have bs5 : sl s5 = sl u4 := by rw [← hs5]
  have ms5 : ∀ x, x ≠ 0 → Sm u4 s5 x := fun x q => by rw [← hs5]; exact sR_sm u4 _ _ _ x q
  have os5 : C0 u4 s5 := by rw [← hs5]; exact sR_c0 _ _ _ _
  have rs5 : ∀ j, s5.2.2.1 0 j = if j = 1 then some 9 else u4.2.2.1 0 j := fun j => by rw [← hs5]; exact sR_r0 _ _ _ j
  have ds5 : sz s5 = 16 := by rw [cs5, cu4]
  have ca5 : sz (al s5 8 4) = 17 := by show sz s5 + 1 = _; rw [ds5]
  obtain ⟨u6, eu6, gu6, l6, z6⟩ := n_X1 (al s5 8 4) 1
  rw [ca5] at eu6 l6 z6
  have cu6 : sz u6 = 29 := by rw [gu6.1, ca5]
  have ko6 : u6.2.2.2.1 16 = (8, 4) := by
    rw [(gu6.2.2 16 (by omega)).2.2.2]
    have := al_k s5 8 4
    rwa [ds5] at this
  have ro6 : ∀ k, u6.2.2.1 16 k = none := fun k => by
    rw [(gu6.2.2 16 (by omega)).2.2.1]
    show (if 16 = sz s5 then none else _) = none
    rw [if_pos ds5.symm]
  have io6 : u6.1 16 = fun _ => 0 := by
    rw [(gu6.2.2 16 (by omega)).1]
    have := al_0 s5 8 4
    rwa [ds5] at this
  obtain ⟨u7, eu7, x1, x2, x3, x4, x5, x6, x7, x8, x9, x10, x11⟩ := c_X8_init (s := u6) (o := 16) (n := 1) (m := 17) (by omega) ko6 ro6
  rw [cu6] at x1 x3 x7 x8 x9 x10 x11
  have cu7 : sz u7 = 55 := x1
  generalize hs8 : sR u7 0 2 (some 16) = s8
  have cs8 : sz s8 = sz u7 := by rw [← hs8]
  have bs8 : sl s8 = sl u7 := by rw [← hs8]
  have ms8 : ∀ x, x ≠ 0 → Sm u7 s8 x := fun x q => by rw [← hs8]; exact sR_sm u7 _ _ _ x q
  have os8 : C0 u7 s8 := by rw [← hs8]; exact sR_c0 _ _ _ _
  have rs8 : ∀ j, s8.2.2.1 0 j = if j = 2 then some 16 else u7.2.2.1 0 j := fun j => by rw [← hs8]; exact sR_r0 _ _ _ j
  have ds8 : sz s8 = 55 := by rw [cs8, cu7]
  obtain ⟨u9, eu9, gu9, l9, z9⟩ := n_X1 s8 1
  rw [ds8] at eu9 l9 z9
  have cu9 : sz u9 = 67 := by rw [gu9.1, ds8]
  generalize hs10 : sR u9 0 3 (some 55) = s10
  have cs10 : sz s10 = sz u9 := by rw [← hs10]
  have bs10 : sl s10 = sl u9 := by rw [← hs10]
  have ms10 : ∀ x, x ≠ 0 → Sm u9 s10 x := fun x q => by rw [← hs10]; exact sR_sm u9 _ _ _ x q
  have os10 : C0 u9 s10 := by rw [← hs10]; exact sR_c0 _ _ _ _
  have rs10 : ∀ j, s10.2.2.1 0 j = if j = 3 then some 55 else u9.2.2.1 0 j := fun j => by rw [← hs10]; exact sR_r0 _ _ _ j
  have ds10 : sz s10 = 67 := by rw [cs10, cu9]
  obtain ⟨u11, eu11, gu11, l11, l11n, z11⟩ := n_X0 s10
  rw [ds10] at eu11 l11 l11n z11
  have cu11 : sz u11 = 69 := by rw [gu11.1, ds10]
  generalize hs12 : sR u11 0 4 (some 67) = s12
  have cs12 : sz s12 = sz u11 := by rw [← hs12]
  have bs12 : sl s12 = sl u11 := by rw [← hs12]
  have ms12 : ∀ x, x ≠ 0 → Sm u11 s12 x := fun x q => by rw [← hs12]; exact sR_sm u11 _ _ _ x q
  have os12 : C0 u11 s12 := by rw [← hs12]; exact sR_c0 _ _ _ _
  have rs12 : ∀ j, s12.2.2.1 0 j = if j = 4 then some 67 else u11.2.2.1 0 j := fun j => by rw [← hs12]; exact sR_r0 _ _ _ j
  have ds12 : sz s12 = 69 := by rw [cs12, cu11]
  have ca12 : sz (al s12 6 7) = 70 := by show sz s12 + 1 = _; rw [ds12]
  obtain ⟨u13, eu13, gu13, l13, z13⟩ := n_X1 (al s12 6 7) 1
  rw [ca12] at eu13 l13 z13
  have cu13 : sz u13 = 82 := by rw [gu13.1, ca12]
  obtain ⟨u14, eu14, gu14, l14, z14⟩ := n_X1 u13 1
  rw [cu13] at eu14 l14 z14
  have cu14 : sz u14 = 94 := by rw [gu14.1, cu13]
  have ky : u14.2.2.2.1 69 = (6, 7) := by
    rw [(gu14.2.2 69 (by omega)).2.2.2, (gu13.2.2 69 (by omega)).2.2.2]
    have := al_k s12 6 7
    rwa [ds12] at this
  have iy : u14.1 69 = fun _ => 0 := by
    rw [(gu14.2.2 69 (by omega)).1, (gu13.2.2 69 (by omega)).1]
    have := al_0 s12 6 7
    rwa [ds12] at this
  obtain ⟨u15, eu15, y1, y2, y3, y4, y5, y6, y7⟩ := c_X6_init (s := u14) (y := 69) (b := 70) (t := 82) (by omega) ky iy
  rw [cu14] at y1 y3 y5 y7
  have cu15 : sz u15 = 158 := y1
  generalize hs16 : sR u15 0 5 (some 69) = s16
  have cs16 : sz s16 = sz u15 := by rw [← hs16]
  have bs16 : sl s16 = sl u15 := by rw [← hs16]
  have ms16 : ∀ x, x ≠ 0 → Sm u15 s16 x := fun x q => by rw [← hs16]; exact sR_sm u15 _ _ _ x q
  have os16 : C0 u15 s16 := by rw [← hs16]; exact sR_c0 _ _ _ _
  have rs16 : ∀ j, s16.2.2.1 0 j = if j = 5 then some 69 else u15.2.2.1 0 j := fun j => by rw [← hs16]; exact sR_r0 _ _ _ j
  have ds16 : sz s16 = 158 := by rw [cs16, cu15]
  obtain ⟨u17, eu17, gu17, l17, z17⟩ := n_X4_12 s16
  rw [ds16] at eu17 l17 z17
  have cu17 : sz u17 = 160 := by rw [gu17.1, ds16]
  generalize hs18 : sR u17 0 6 (some 158) = s18
  have cs18 : sz s18 = sz u17 := by rw [← hs18]
  have bs18 : sl s18 = sl u17 := by rw [← hs18]
  have ms18 : ∀ x, x ≠ 0 → Sm u17 s18 x := fun x q => by rw [← hs18]; exact sR_sm u17 _ _ _ x q
  have os18 : C0 u17 s18 := by rw [← hs18]; exact sR_c0 _ _ _ _
  have rs18 : ∀ j, s18.2.2.1 0 j = if j = 6 then some 158 else u17.2.2.1 0 j := fun j => by rw [← hs18]; exact sR_r0 _ _ _ j
  have ds18 : sz s18 = 160 := by rw [cs18, cu17]
  obtain ⟨u19, eu19, gu19, l19, z19⟩ := n_X4_12 s18
  rw [ds18] at eu19 l19 z19
  have cu19 : sz u19 = 162 := by rw [gu19.1, ds18]
  generalize hs20 : sR u19 0 7 (some 160) = s20
  have cs20 : sz s20 = sz u19 := by rw [← hs20]
  have bs20 : sl s20 = sl u19 := by rw [← hs20]
  have ms20 : ∀ x, x ≠ 0 → Sm u19 s20 x := fun x q => by rw [← hs20]; exact sR_sm u19 _ _ _ x q
  have os20 : C0 u19 s20 := by rw [← hs20]; exact sR_c0 _ _ _ _
  have rs20 : ∀ j, s20.2.2.1 0 j = if j = 7 then some 160 else u19.2.2.1 0 j := fun j => by rw [← hs20]; exact sR_r0 _ _ _ j
  have ds20 : sz s20 = 162 := by rw [cs20, cu19]
  have ga20 := al_gw s20 13 12
  have ka20 : (al s20 13 12).2.2.2.1 162 = (13, 12) := by have := al_k s20 13 12; rwa [ds20] at this
  have ia20 : (al s20 13 12).1 162 = fun _ => 0 := by have := al_0 s20 13 12; rwa [ds20] at this
  have ca20 : sz (al s20 13 12) = 163 := by show sz s20 + 1 = _; rw [ds20]
  have ba20 : sl (al s20 13 12) = sl s20 + 12 := rfl
  generalize ha20 : al s20 13 12 = a20 at ga20 ka20 ia20 ca20 ba20
  generalize hs22 : sR a20 0 8 (some 162) = s22
  have cs22 : sz s22 = sz a20 := by rw [← hs22]
  have bs22 : sl s22 = sl a20 := by rw [← hs22]
  have ms22 : ∀ x, x ≠ 0 → Sm a20 s22 x := fun x q => by rw [← hs22]; exact sR_sm a20 _ _ _ x q
  have os22 : C0 a20 s22 := by rw [← hs22]; exact sR_c0 _ _ _ _
  have rs22 : ∀ j, s22.2.2.1 0 j = if j = 8 then some 162 else a20.2.2.1 0 j := fun j => by rw [← hs22]; exact sR_r0 _ _ _ j
  have ds22 : sz s22 = 163 := by rw [cs22, ca20]
  generalize hs29 : sR (sR s22 162 0 (some 158)) 162 1 (some 160) = s29
  have ms29 : ∀ x, x ≠ 162 → Sm s22 s29 x := fun x q => by rw [← hs29]; exact (sR_sm s22 _ _ _ x q).trans (sR_sm _ _ _ _ x q)
  have ds29 : sz s29 = 163 := by rw [← hs29]; exact ds22
  have bs29 : sl s29 = sl s22 := by rw [← hs29]
  have is29 : s29.1 = s22.1 := by rw [← hs29]
  have ks29 : s29.2.2.2.1 = s22.2.2.2.1 := by rw [← hs29]
  have k162 : s22.2.2.2.1 162 = (13, 12) := by rw [(ms22 162 (by decide)).2.2.2]; exact ka20
  have qs1 := C0.trans (show C0 s s from ⟨rfl, rfl, rfl⟩) (gs1.2.2 0 (by omega)).c0
  have qu2 := C0.trans qs1 (gu2.2.2 0 (by omega)).c0
  have qs3 := C0.trans qu2 os3
  have qu4 := C0.trans qs3 (gu4.2.2 0 (by omega)).c0
  have qs5 := C0.trans qu4 os5
  have qa5 := C0.trans qs5 (al_sm s5 8 4 0 (by omega)).c0
  have qu6 := C0.trans qa5 (gu6.2.2 0 (by omega)).c0
  have qu7 := C0.trans qu6 (x3 0 (by omega) (by omega)).c0
  have qs8 := C0.trans qu7 os8
  have qu9 := C0.trans qs8 (gu9.2.2 0 (by omega)).c0
  have qs10 := C0.trans qu9 os10
  have qu11 := C0.trans qs10 (gu11.2.2 0 (by omega)).c0
  have qs12 := C0.trans qu11 os12
  have qa12 := C0.trans qs12 (al_sm s12 6 7 0 (by omega)).c0
  have qu13 := C0.trans qa12 (gu13.2.2 0 (by omega)).c0
  have qu14 := C0.trans qu13 (gu14.2.2 0 (by omega)).c0
  have qu15 := C0.trans qu14 (y3 0 (by omega) (by omega)).c0
  have qs16 := C0.trans qu15 os16
  have qu17 := C0.trans qs16 (gu17.2.2 0 (by omega)).c0
  have qs18 := C0.trans qu17 os18
  have qu19 := C0.trans qs18 (gu19.2.2 0 (by omega)).c0
  have qs20 := C0.trans qu19 os20
  have qa20 := C0.trans qs20 (ga20.2.2 0 (by omega)).c0
  have qs22 := C0.trans qa20 os22
  have R1 : ∀ j, s22.2.2.1 0 j = if j = 8 then some 162 else if j = 7 then some 160 else if j = 6 then some 158 else if j = 5 then some 69 else if j = 4 then some 67 else if j = 3 then some 55 else if j = 2 then some 16 else if j = 1 then some 9 else if j = 0 then some 7 else u2.2.2.1 0 j := fun j => by
    rw [rs22, (ga20.2.2 0 (by omega)).2.2.1, rs20, (gu19.2.2 0 (by omega)).2.2.1, rs18, (gu17.2.2 0 (by omega)).2.2.1, rs16, (y3 0 (by omega) (by omega)).2.2.1, (gu14.2.2 0 (by omega)).2.2.1, (gu13.2.2 0 (by omega)).2.2.1, (al_sm s12 6 7 0 (by omega)).2.2.1, rs12, (gu11.2.2 0 (by omega)).2.2.1, rs10, (gu9.2.2 0 (by omega)).2.2.1, rs8, (x3 0 (by omega) (by omega)).2.2.1, (gu6.2.2 0 (by omega)).2.2.1, (al_sm s5 8 4 0 (by omega)).2.2.1, rs5, (gu4.2.2 0 (by omega)).2.2.1, rs3]
  have tol2 : TolK s29.2 2 := by
    intro i hi
    have hh : i = 0 ∨ i = 1 := by omega
    rcases hh with e | e
    · subst e
      refine ⟨?_, ?_⟩
      · rw [← hs29]
        show up2 (up2 s22.2.2.1 162 0 (some 158)) 162 1 (some 160) 162 0 = some 158
        simp [up2]
      · exact l17.bw (b := 160) (fun x h1 h2 => by
          have h1 : 158 ≤ x := h1
          have q := (((((ms18 x (by omega)).trans (gu19.2.2 x (by omega))).trans (ms20 x (by omega))).trans (ga20.2.2 x (by omega))).trans (ms22 x (by omega))).trans (ms29 x (by omega))
          exact ⟨q.2.2.1, q.2.2.2⟩) (by decide)
    · subst e
      refine ⟨?_, ?_⟩
      · rw [← hs29]
        show up2 (up2 s22.2.2.1 162 0 (some 158)) 162 1 (some 160) 162 1 = some 160
        simp [up2]
      · exact l19.bw (b := 162) (fun x h1 h2 => by
          have h1 : 160 ≤ x := h1
          have q := (((ms20 x (by omega)).trans (ga20.2.2 x (by omega))).trans (ms22 x (by omega))).trans (ms29 x (by omega))
          exact ⟨q.2.2.1, q.2.2.2⟩) (by decide)
  obtain ⟨s30, es30, v1, v2, v3, v4, v6, v7, v8⟩ := lp_X9_init 10 2 s29 rfl (by decide) ((congrArg Prod.fst ((ms29 0 (by decide)).2.2.2)).trans ((congrArg Prod.fst qs22.2.1).trans k0)) ((congrFun (ms29 0 (by decide)).2.2.1 8).trans ((R1 8).trans rfl)) (by rw [ks29]; exact k162) ds29 tol2 (fun x h1 h2 => absurd h2 (by omega))
  have sm0 : Sm s22 s30 0 := (ms29 0 (by decide)).trans (v3 0 (by decide) (by decide))
  have q30 := C0.trans qs22 sm0.c0
  obtain ⟨u31, eu31, gu31, l31, z31⟩ := n_X4_60 s30
  rw [v1] at eu31 l31 z31
  have cu31 : sz u31 = 185 := by rw [gu31.1, v1]
  generalize hs32 : sR u31 0 9 (some 183) = s32
  have cs32 : sz s32 = sz u31 := by rw [← hs32]
  have bs32 : sl s32 = sl u31 := by rw [← hs32]
  have ms32 : ∀ x, x ≠ 0 → Sm u31 s32 x := fun x q => by rw [← hs32]; exact sR_sm u31 _ _ _ x q
  have os32 : C0 u31 s32 := by rw [← hs32]; exact sR_c0 _ _ _ _
  have rs32 : ∀ j, s32.2.2.1 0 j = if j = 9 then some 183 else u31.2.2.1 0 j := fun j => by rw [← hs32]; exact sR_r0 _ _ _ j
  have ds32 : sz s32 = 185 := by rw [cs32, cu31]
  have q31 := C0.trans q30 (gu31.2.2 0 (by omega)).c0
  have q32 := C0.trans q31 os32
  have kd32 : kd s32 0 = 9 := ((congrArg Prod.fst q32.2.1).trans k0)
  have a33 := aws_a 0 [(11, 300, 10), (11, 6, 12), (11, 4, 13)] s32 (by omega)
  have w33 := aws_sz 0 [(11, 300, 10), (11, 6, 12), (11, 4, 13)] s32
  have sm33 := aws_sm 0 [(11, 300, 10), (11, 6, 12), (11, 4, 13)] s32
  have n33 := fun i q hq => aws_new 0 [(11, 300, 10), (11, 6, 12), (11, 4, 13)] s32 i q (by omega) hq
  have es33 : ∀ f : MH → Option MO, ((nw s32 11 300).bind fun s6 => (wR s6 9 0 10 (some (sz s32))).bind fun s7 => (nw s7 11 6).bind fun s8 => (wR s8 9 0 12 (some (sz s7))).bind fun s9 => (nw s9 11 4).bind fun s10 => (wR s10 9 0 13 (some (sz s9))).bind f) = f (aws 0 [(11, 300, 10), (11, 6, 12), (11, 4, 13)] s32) := by
    intro f
    show ((nw (aws 0 [] s32) 11 300).bind fun s1 => (wR s1 9 0 10 (some (sz (aws 0 [] s32)))).bind _) = _
    rw [aw_step kd32 (by omega) _ 11 300 10 300 (by decide) (by decide) (by decide), aw_step kd32 (by omega) _ 11 6 12 6 (by decide) (by decide) (by decide), aw_step kd32 (by omega) _ 11 4 13 4 (by decide) (by decide) (by decide)]
    rfl
  generalize hs33 : aws 0 [(11, 300, 10), (11, 6, 12), (11, 4, 13)] s32 = s33 at a33 w33 sm33 n33 es33
  have kd33 : kd s33 0 = 9 := (congrArg Prod.fst a33.2.2.1).trans kd32
  have R2 : ∀ j, s33.2.2.1 0 j = match rk [(11, 300, 10), (11, 6, 12), (11, 4, 13)] 185 j with
    | some x => some x
    | none => if j = 9 then some 183 else s22.2.2.1 0 j := fun j => by
    rw [a33.2.2.2 j, ds32, rs32, (gu31.2.2 0 (by omega)).2.2.1, sm0.2.2.1]
    rfl
  have T32 : ∀ x, 0 < x → x < 185 → Sm s32 s33 x := fun x h0 h1 => sm33 x (by omega) (by omega)
  have T31 : ∀ x, 0 < x → x < 185 → Sm u31 s33 x := fun x h0 h1 => (ms32 x (by omega)).trans (T32 x (by omega) (by omega))
  have T30 : ∀ x, 0 < x → x < 183 → Sm s30 s33 x := fun x h0 h1 => (gu31.2.2 x (by omega)).trans (T31 x (by omega) (by omega))
  have T29 : ∀ x, 0 < x → x < 163 → x ≠ 162 → Sm s29 s33 x := fun x h0 h1 n162 => (v3 x (by omega) (by omega)).trans (T30 x (by omega) (by omega))
  have T22 : ∀ x, 0 < x → x < 163 → x ≠ 162 → Sm s22 s33 x := fun x h0 h1 n162 => (ms29 x (by omega)).trans (T29 x (by omega) (by omega) (by omega))
  have Ta20 : ∀ x, 0 < x → x < 163 → x ≠ 162 → Sm a20 s33 x := fun x h0 h1 n162 => (ms22 x (by omega)).trans (T22 x (by omega) (by omega) (by omega))
  have T20 : ∀ x, 0 < x → x < 162 → Sm s20 s33 x := fun x h0 h1 => (ga20.2.2 x (by omega)).trans (Ta20 x (by omega) (by omega) (by omega))
  have Tu19 : ∀ x, 0 < x → x < 162 → Sm u19 s33 x := fun x h0 h1 => (ms20 x (by omega)).trans (T20 x (by omega) (by omega))
  have T18 : ∀ x, 0 < x → x < 160 → Sm s18 s33 x := fun x h0 h1 => (gu19.2.2 x (by omega)).trans (Tu19 x (by omega) (by omega))
  have Tu17 : ∀ x, 0 < x → x < 160 → Sm u17 s33 x := fun x h0 h1 => (ms18 x (by omega)).trans (T18 x (by omega) (by omega))
  have T16 : ∀ x, 0 < x → x < 158 → Sm s16 s33 x := fun x h0 h1 => (gu17.2.2 x (by omega)).trans (Tu17 x (by omega) (by omega))
  have Tu15 : ∀ x, 0 < x → x < 158 → Sm u15 s33 x := fun x h0 h1 => (ms16 x (by omega)).trans (T16 x (by omega) (by omega))
  have Tu14 : ∀ x, 0 < x → x < 94 → x ≠ 69 → Sm u14 s33 x := fun x h0 h1 n69 => (y3 x (by omega) (by omega)).trans (Tu15 x (by omega) (by omega))
  have Tu13 : ∀ x, 0 < x → x < 82 → x ≠ 69 → Sm u13 s33 x := fun x h0 h1 n69 => (gu14.2.2 x (by omega)).trans (Tu14 x (by omega) (by omega) (by omega))
  have Ta12 : ∀ x, 0 < x → x < 70 → x ≠ 69 → Sm (al s12 6 7) s33 x := fun x h0 h1 n69 => (gu13.2.2 x (by omega)).trans (Tu13 x (by omega) (by omega) (by omega))
  have T12 : ∀ x, 0 < x → x < 69 → Sm s12 s33 x := fun x h0 h1 => (al_sm s12 6 7 x (by omega)).trans (Ta12 x (by omega) (by omega) (by omega))
  have Tu11 : ∀ x, 0 < x → x < 69 → Sm u11 s33 x := fun x h0 h1 => (ms12 x (by omega)).trans (T12 x (by omega) (by omega))
  have T10 : ∀ x, 0 < x → x < 67 → Sm s10 s33 x := fun x h0 h1 => (gu11.2.2 x (by omega)).trans (Tu11 x (by omega) (by omega))
  have Tu9 : ∀ x, 0 < x → x < 67 → Sm u9 s33 x := fun x h0 h1 => (ms10 x (by omega)).trans (T10 x (by omega) (by omega))
  have T8 : ∀ x, 0 < x → x < 55 → Sm s8 s33 x := fun x h0 h1 => (gu9.2.2 x (by omega)).trans (Tu9 x (by omega) (by omega))
  have Tu7 : ∀ x, 0 < x → x < 55 → Sm u7 s33 x := fun x h0 h1 => (ms8 x (by omega)).trans (T8 x (by omega) (by omega))
  have Tu6 : ∀ x, 0 < x → x < 29 → x ≠ 16 → Sm u6 s33 x := fun x h0 h1 n16 => (x3 x (by omega) (by omega)).trans (Tu7 x (by omega) (by omega))
  have Ta5 : ∀ x, 0 < x → x < 17 → x ≠ 16 → Sm (al s5 8 4) s33 x := fun x h0 h1 n16 => (gu6.2.2 x (by omega)).trans (Tu6 x (by omega) (by omega) (by omega))
  have T5 : ∀ x, 0 < x → x < 16 → Sm s5 s33 x := fun x h0 h1 => (al_sm s5 8 4 x (by omega)).trans (Ta5 x (by omega) (by omega) (by omega))
  have Tu4 : ∀ x, 0 < x → x < 16 → Sm u4 s33 x := fun x h0 h1 => (ms5 x (by omega)).trans (T5 x (by omega) (by omega))
  have T3 : ∀ x, 0 < x → x < 9 → Sm s3 s33 x := fun x h0 h1 => (gu4.2.2 x (by omega)).trans (Tu4 x (by omega) (by omega))
  have Tu2 : ∀ x, 0 < x → x < 9 → Sm u2 s33 x := fun x h0 h1 => (ms3 x (by omega)).trans (T3 x (by omega) (by omega))
  have Ts1 : ∀ x, 0 < x → x < 7 → Sm s1 s33 x := fun x h0 h1 => (gu2.2.2 x (by omega)).trans (Tu2 x (by omega) (by omega))
  have hKL : KL s33.2 := by
    refine ⟨⟨kd33, (R2 0).trans (R1 0), (R2 1).trans (R1 1), (R2 2).trans (R1 2), (R2 3).trans (R1 3), (R2 4).trans (R1 4), (R2 5).trans (R1 5), (R2 6).trans (R1 6), (R2 7).trans (R1 7), (R2 8).trans (R1 8), (R2 9).trans rfl, (R2 10).trans rfl, (R2 12).trans rfl, (R2 13).trans rfl⟩, ⟨?_, ?_, ?_, ?_, ?_, ?_, ?_, ?_, ?_, ?_, ?_, ?_, ?_⟩, ?_, ?_, ?_⟩
    · exact l2.bw (b := 9) (fun x h1 h2 => (Tu2 x (by omega) (by omega)).rs) (by decide)
    · exact l4.bw (b := 10) (fun x h1 h2 => (Tu4 x (by omega) (by omega)).rs) (by decide)
    · exact l4n.bw (b := 16) (fun x h1 h2 => (Tu4 x (by omega) (by omega)).rs) (by decide)
    · exact l1.bw (b := 7) (fun x h1 h2 => (Ts1 x (by omega) (by omega)).rs) (by decide)
    · exact x7.bw (b := 17) (fun x h1 h2 => (Tu7 x (by omega) (by omega)).rs) (by decide)
    · exact l6.bw (b := 29) (fun x h1 h2 => (Tu6 x (by omega) (by omega) (by omega)).rs) (by decide)
    · exact x8.bw (b := 30) (fun x h1 h2 => (Tu7 x (by omega) (by omega)).rs) (by decide)
    · exact x9.bw (b := 55) (fun x h1 h2 => (Tu7 x (by omega) (by omega)).rs) (by decide) (by decide)
    · exact l9.bw (b := 67) (fun x h1 h2 => (Tu9 x (by omega) (by omega)).rs) (by decide)
    · exact l11.bw (b := 69) (fun x h1 h2 => (Tu11 x (by omega) (by omega)).rs) (by decide)
    · have g := fun x (h0 : 0 < x) (h1 : x < 158) => (Tu15 x h0 h1).rs
      obtain ⟨t1, t2, t3, t4, t5, t6, t7, t8, t9, t10, t11⟩ := y5
      refine ⟨?_, ?_, ?_, ?_, ?_, ?_, ?_, fun k hk => ⟨?_, ?_⟩, ?_, fun r hr => ⟨?_, ?_⟩, ?_, ?_, ?_, ?_, by decide⟩
      · rw [(g 69 (by decide) (by decide)).2]; exact t1
      · rw [(g 69 (by decide) (by decide)).1]; exact t2
      · rw [(g 69 (by decide) (by decide)).1]; exact t3
      · rw [(g 69 (by decide) (by decide)).1]; exact t4
      · rw [(g 69 (by decide) (by decide)).1]; exact t5
      · rw [(g 69 (by decide) (by decide)).1]; exact t6
      · rw [(g 94 (by decide) (by decide)).2]; exact t7
      · rw [(g 94 (by decide) (by decide)).1]; exact (t8 k hk).1
      · exact (t8 k hk).2.bw (b := 134 + 2 * k + 2) (fun x h1 h2 => (Tu15 x (by omega) (by omega)).rs) (by omega)
      · rw [(g 95 (by decide) (by decide)).2]; exact t9
      · rw [(g 95 (by decide) (by decide)).1]; exact (t10 r hr).1
      · rw [(g (69 + 27 + r) (by omega) (by omega)).2]; exact (t10 r hr).2
      · rw [(g 133 (by decide) (by decide)).2]; exact t11
      · exact l13.bw (b := 82) (fun x h1 h2 => (Tu13 x (by omega) (by omega) (by omega)).rs) (by decide)
      · exact l14.bw (b := 94) (fun x h1 h2 => (Tu14 x (by omega) (by omega) (by omega)).rs) (by decide)
      · exact l1.bw (b := 7) (fun x h1 h2 => (Ts1 x (by omega) (by omega)).rs) (by decide)
    · refine ⟨?_, fun k hk => ⟨?_, ?_⟩⟩
      · rw [show jS s33.2 (158 + 4) = jS s30.2 162 from (T30 162 (by decide) (by decide)).rs.2]; exact v6
      · rw [show jR s33.2 (158 + 4) = jR s30.2 162 from (T30 162 (by decide) (by decide)).rs.1]; exact (v7 k hk).1
      · have hrr : 158 ≤ rr 158 k ∧ rr 158 k + 2 ≤ 183 := by unfold rr; split <;> omega
        exact (v7 k hk).2.bw (b := rr 158 k + 2) (fun x h1 h2 => (T30 x (by omega) (by omega)).rs) (by omega)
    · exact l31.bw (b := 185) (fun x h1 h2 => (T31 x (by omega) (by omega)).rs) (by decide)
    · have u := fun i q hq => (n33 i q hq).2.1
      rw [ds32] at u
      exact u 0 _ rfl
    · have u := fun i q hq => (n33 i q hq).2.1
      rw [ds32] at u
      exact u 1 _ rfl
    · have u := fun i q hq => (n33 i q hq).2.1
      rw [ds32] at u
      exact u 2 _ rfl
  have hI : ∀ x, x < 188 → s33.1 x = ini x := by
    intro x hx
    by_cases e0 : x = 0
    · subst e0
      rw [a33.1, q32.1, hi]
      rfl
    by_cases e6 : x ≤ 6
    · rw [(Ts1 x (by omega) (by omega)).1, z1 x (by omega) (by omega)]
      funext y
      unfold ini
      rw [if_neg (by omega), if_pos (by omega)]
    by_cases e8 : x ≤ 8
    · rw [(Tu2 x (by omega) (by omega)).1, z2 x (by omega) (by omega)]
      funext y
      unfold ini
      rw [if_neg (by omega), if_pos (by omega)]
    by_cases e9 : x ≤ 9
    · have ex : x = 9 := by omega
      subst ex
      rw [(Tu4 9 (by omega) (by omega)).1, z4r]
      rfl
    by_cases e15 : x ≤ 15
    · rw [(Tu4 x (by omega) (by omega)).1, z4 x (by omega) (by omega)]
      funext y
      unfold ini
      rw [if_neg (by omega), if_pos (by omega)]
    by_cases e16 : x ≤ 16
    · have ex : x = 16 := by omega
      subst ex
      rw [(Tu7 16 (by omega) (by omega)).1, x4, io6]
      rfl
    by_cases e28 : x ≤ 28
    · have en : ∀ y, ini x y = iniM 17 x y := fun y => by
        unfold ini
        rw [if_neg (by omega), if_neg (by omega), if_pos (by omega)]
      rw [(Tu6 x (by omega) (by omega) (by omega)).1, z6 x (by omega) (by omega)]
      funext y
      rw [en]
      rfl
    by_cases e29 : x ≤ 29
    · have ex : x = 29 := by omega
      subst ex
      rw [(Tu7 29 (by omega) (by omega)).1, x11]
      rfl
    by_cases e54 : x ≤ 54
    · rw [(Tu7 x (by omega) (by omega)).1, x10 x (by omega) (by omega)]
      funext y
      unfold ini
      rw [if_neg (by omega), if_neg (by omega), if_neg (by omega), if_neg (by omega), if_pos (by omega)]
    by_cases e66 : x ≤ 66
    · have en : ∀ y, ini x y = iniM 55 x y := fun y => by
        unfold ini
        rw [if_neg (by omega), if_neg (by omega), if_neg (by omega), if_neg (by omega), if_neg (by omega), if_pos (by omega)]
      rw [(Tu9 x (by omega) (by omega)).1, z9 x (by omega) (by omega)]
      funext y
      rw [en]
      rfl
    by_cases e68 : x ≤ 68
    · rw [(Tu11 x (by omega) (by omega)).1, z11 x (by omega) (by omega)]
      funext y
      unfold ini
      rw [if_neg (by omega), if_neg (by omega), if_neg (by omega), if_neg (by omega), if_neg (by omega), if_neg (by omega), if_pos (by omega)]
    by_cases e69 : x ≤ 69
    · have ex : x = 69 := by omega
      subst ex
      rw [(Tu15 69 (by omega) (by omega)).1, y6]
      rfl
    by_cases e81 : x ≤ 81
    · have en : ∀ y, ini x y = iniM 70 x y := fun y => by
        unfold ini
        rw [if_neg (by omega), if_neg (by omega), if_neg (by omega), if_neg (by omega), if_neg (by omega), if_neg (by omega), if_neg (by omega), if_neg (by omega), if_pos (by omega)]
      rw [(Tu13 x (by omega) (by omega) (by omega)).1, z13 x (by omega) (by omega)]
      funext y
      rw [en]
      rfl
    by_cases e93 : x ≤ 93
    · have en : ∀ y, ini x y = iniM 82 x y := fun y => by
        unfold ini
        rw [if_neg (by omega), if_neg (by omega), if_neg (by omega), if_neg (by omega), if_neg (by omega), if_neg (by omega), if_neg (by omega), if_neg (by omega), if_neg (by omega), if_pos (by omega)]
      rw [(Tu14 x (by omega) (by omega) (by omega)).1, z14 x (by omega) (by omega)]
      funext y
      rw [en]
      rfl
    by_cases e157 : x ≤ 157
    · rw [(Tu15 x (by omega) (by omega)).1, y7 x (by omega) (by omega)]
      funext y
      unfold ini
      rw [if_neg (by omega), if_neg (by omega), if_neg (by omega), if_neg (by omega), if_neg (by omega), if_neg (by omega), if_neg (by omega), if_neg (by omega), if_neg (by omega), if_neg (by omega)]
    by_cases e159 : x ≤ 159
    · rw [(Tu17 x (by omega) (by omega)).1, z17 x (by omega) (by omega)]
      funext y
      unfold ini
      rw [if_neg (by omega), if_neg (by omega), if_neg (by omega), if_neg (by omega), if_neg (by omega), if_neg (by omega), if_neg (by omega), if_neg (by omega), if_neg (by omega), if_neg (by omega)]
    by_cases e161 : x ≤ 161
    · rw [(Tu19 x (by omega) (by omega)).1, z19 x (by omega) (by omega)]
      funext y
      unfold ini
      rw [if_neg (by omega), if_neg (by omega), if_neg (by omega), if_neg (by omega), if_neg (by omega), if_neg (by omega), if_neg (by omega), if_neg (by omega), if_neg (by omega), if_neg (by omega)]
    by_cases e162 : x ≤ 162
    · have ex : x = 162 := by omega
      subst ex
      rw [(T30 162 (by omega) (by omega)).1, v4, is29, (ms22 162 (by decide)).1, ia20]
      rfl
    by_cases e182 : x ≤ 182
    · rw [(T30 x (by omega) (by omega)).1, v8 x (by omega) (by omega)]
      funext y
      unfold ini
      rw [if_neg (by omega), if_neg (by omega), if_neg (by omega), if_neg (by omega), if_neg (by omega), if_neg (by omega), if_neg (by omega), if_neg (by omega), if_neg (by omega), if_neg (by omega)]
    by_cases e184 : x ≤ 184
    · rw [(T31 x (by omega) (by omega)).1, z31 x (by omega) (by omega)]
      funext y
      unfold ini
      rw [if_neg (by omega), if_neg (by omega), if_neg (by omega), if_neg (by omega), if_neg (by omega), if_neg (by omega), if_neg (by omega), if_neg (by omega), if_neg (by omega), if_neg (by omega)]
    have u := fun i q hq => (n33 i q hq).1
    rw [ds32] at u
    have hh : x = 185 ∨ x = 186 ∨ x = 187 := by omega
    rcases hh with e | e | e
    · subst e; exact u 0 _ rfl
    · subst e; exact u 1 _ rfl
    · subst e; exact u 2 _ rfl
  refine ⟨sL s33 0 15 1, ?_, ?_, ?_, ?_, ?_, ?_, ?_⟩
  · rw [E_X9_init, c0, if_pos (kdal c0), es1]
    simp only [Option.bind_some, asV_n]
    rw [cs1, if_pos (kdal cs1), eu2]
    simp only [Option.bind_some, asV_n]
    rw [wR_ok (show kd _ 0 = 9 from ((congrArg Prod.fst qu2.2.1).trans k0)), Option.bind_some, hs3, ds3, if_pos (kdal ds3), eu4]
    simp only [Option.bind_some, asV_n]
    rw [wR_ok (show kd _ 0 = 9 from ((congrArg Prod.fst qu4.2.1).trans k0)), Option.bind_some, hs5, ca5, if_pos (kdal ca5), eu6]
    simp only [Option.bind_some, asV_n]
    rw [ds5, if_pos (show kd u6 16 = 8 from congrArg Prod.fst ko6), eu7]
    simp only [Option.bind_some, asV_n]
    rw [wR_ok (show kd _ 0 = 9 from ((congrArg Prod.fst qu7.2.1).trans k0)), Option.bind_some, hs8, ds8, if_pos (kdal ds8), eu9]
    simp only [Option.bind_some, asV_n]
    rw [wR_ok (show kd _ 0 = 9 from ((congrArg Prod.fst qu9.2.1).trans k0)), Option.bind_some, hs10, ds10, if_pos (kdal ds10), eu11]
    simp only [Option.bind_some, asV_n]
    rw [wR_ok (show kd _ 0 = 9 from ((congrArg Prod.fst qu11.2.1).trans k0)), Option.bind_some, hs12, ca12, if_pos (kdal ca12), eu13]
    simp only [Option.bind_some, asV_n]
    rw [cu13, if_pos (kdal cu13), eu14]
    simp only [Option.bind_some, asV_n]
    rw [ds12, if_pos (show kd u14 69 = 6 from congrArg Prod.fst ky), eu15]
    simp only [Option.bind_some, asV_n]
    rw [wR_ok (show kd _ 0 = 9 from ((congrArg Prod.fst qu15.2.1).trans k0)), Option.bind_some, hs16, ds16, if_pos (kdal ds16), eu17]
    simp only [Option.bind_some, asV_n]
    rw [wR_ok (show kd _ 0 = 9 from ((congrArg Prod.fst qu17.2.1).trans k0)), Option.bind_some, hs18, ds18, if_pos (kdal ds18), eu19]
    simp only [Option.bind_some, asV_n]
    rw [wR_ok (show kd _ 0 = 9 from ((congrArg Prod.fst qu19.2.1).trans k0)), Option.bind_some, hs20, nw_ok _ 13 12 12 (by decide) (by decide) (by decide), Option.bind_some, ds20, ha20, wR_ok (show kd _ 0 = 9 from ((congrArg Prod.fst qa20.2.1).trans k0)), Option.bind_some, hs22]
    have kk : kd s22 0 = 9 := ((congrArg Prod.fst qs22.2.1).trans k0)
    have ek : ∀ i v, i < 2 → kd s22 v = 4 → ∀ t : MH, t.2.2.2.1 = s22.2.2.2.1 → stR t 162 (nI i) (some v) = some (sR t 162 i (some v)) := fun i v hi2 hv t ht => by
      unfold stR
      have kt : kd t 162 = 13 := by rw [show kd t 162 = (t.2.2.2.1 162).1 from rfl, ht, k162]
      rw [if_pos, show (nI i).toNatClampNeg = i from ix_nI (by omega)]
      refine ⟨by rw [kt]; decide, ?_, ?_⟩
      · rw [show ln t 162 = 12 by rw [show ln t 162 = (t.2.2.2.1 162).2 from rfl, ht, k162]]
        exact inb_nI (by omega) (by decide)
      · rw [kt]
        have hv2 : kd t v = 4 := by rw [show kd t v = (t.2.2.2.1 v).1 from rfl, ht]; exact hv
        show (13 == 13 && kd t v == 4 || 13 == 14 && kd t v == 7 || 13 == 15 && kd t v == 8) = true
        rw [hv2]
        rfl
    have k158 : kd s22 158 = 4 := by
      have q := ((((ms18 158 (by decide)).trans (gu19.2.2 158 (by omega))).trans (ms20 158 (by decide))).trans (ga20.2.2 158 (by omega))).trans (ms22 158 (by decide))
      exact (congrArg Prod.fst q.2.2.2).trans l17.k
    have k160 : kd s22 160 = 4 := by
      have q := ((ms20 160 (by decide)).trans (ga20.2.2 160 (by omega))).trans (ms22 160 (by decide))
      exact (congrArg Prod.fst q.2.2.2).trans l19.k
    have f22 : ∀ k v (t : MH), t.2.2.2.1 = s22.2.2.2.1 → t.2.2.1 0 = s22.2.2.1 0 → s22.2.2.1 0 k = v → fR t 9 0 k = some v := fun k v t h1 h2 h3 => by
      unfold fR
      rw [if_pos (show kd t 0 = 9 by rw [show kd t 0 = (t.2.2.2.1 0).1 from rfl, h1]; exact kk), h2, h3]
    rw [f22 8 _ s22 rfl rfl (R1 8), Option.bind_some, f22 6 _ s22 rfl rfl (R1 6), Option.bind_some]
    show ((stR s22 162 (nI 0) (some 158)).bind _) = _
    rw [ek 0 158 (by decide) k158 s22 rfl, Option.bind_some, f22 8 _ (sR s22 162 0 (some 158)) rfl rfl (R1 8), Option.bind_some, f22 7 _ (sR s22 162 0 (some 158)) rfl rfl (R1 7), Option.bind_some]
    show ((stR (sR s22 162 0 (some 158)) 162 (nI 1) (some 160)).bind _) = _
    rw [ek 1 160 (by decide) k160 (sR s22 162 0 (some 158)) rfl, Option.bind_some, hs29]
    refine es30.trans ?_
    have k30 : kd s30 0 = 9 := ((congrArg Prod.fst q30.2.1).trans k0)
    rw [E_X9_init_161, show fR s30 9 0 8 = some (some 162) by unfold fR; rw [if_pos k30, sm0.2.2.1, R1 8]; rfl, Option.bind_some, Option.bind_some, show aln s30 162 = some (nI 12) by unfold aln; rw [if_pos (by rw [show kd s30 162 = 13 from congrArg Prod.fst v6]; decide), show ln s30 162 = 12 from congrArg Prod.snd v6]; rfl, Option.bind_some, if_pos (Int32.le_refl _), v1, if_pos (kdal v1), eu31]
    simp only [Option.bind_some, asV_n]
    rw [wR_ok (show kd _ 0 = 9 from ((congrArg Prod.fst q31.2.1).trans k0)), Option.bind_some, hs32, es33, show wL s33 9 0 15 1 = some (sL s33 0 15 1) from if_pos kd33, Option.bind_some]
  · show sz s33 = 188
    rw [w33.1, ds32]
    rfl
  · show sl s33 = _
    rw [w33.2, bs32, gu31.2.1, v2, bs29, bs22, ba20, bs20, gu19.2.1, bs18, gu17.2.1, bs16, y2, gu14.2.1, gu13.2.1, show sl (al s12 6 7) = sl s12 + 7 from rfl, bs12, gu11.2.1, bs10, gu9.2.1, bs8, x2, gu6.2.1, show sl (al s5 8 4) = sl s5 + 4 from rfl, bs5, gu4.2.1, bs3, gu2.2.1, gs1.2.1]
    simp only [slo]
  · exact hKL
  · intro k
    show s33.2.2.1 68 k = none
    rw [(Tu11 68 (by decide) (by decide)).2.2.1]
    exact l11n k
  · show (if 0 = 0 ∧ 15 = 15 then (1 : Int64) else s33.2.1 0 15) = 1
    rw [if_pos ⟨rfl, rfl⟩]
  · exact hI
end
section
/-! The reference made. Written by gen/ctor10.py. -/
def RefL (J : MJ) : Prop := (jS J 188).1 = 10 ∧ jR J 188 0 = some 189 ∧ jR J 188 8 = some 190 ∧ jR J 188 9 = some 191 ∧ jR J 188 14 = some 192 ∧ jR J 188 16 = some 193 ∧ jR J 188 18 = some 194 ∧ jR J 188 19 = some 195 ∧ jR J 188 23 = some 196 ∧ jR J 188 24 = some 197 ∧ jR J 188 26 = some 198 ∧ jR J 188 27 = some 199 ∧ jR J 188 30 = some 200 ∧ jR J 188 33 = some 201 ∧ jR J 188 34 = some 202 ∧ jR J 188 35 = some 203 ∧ jR J 188 39 = some 204 ∧ jR J 188 40 = some 205 ∧ jR J 188 41 = some 206 ∧ jR J 188 42 = some 207 ∧ jS J 189 = (11, 400) ∧ jS J 190 = (11, 6) ∧ jS J 191 = (11, 240) ∧ jS J 192 = (11, 64) ∧ jS J 193 = (11, 64) ∧ jS J 194 = (11, 1853) ∧ jS J 195 = (11, 128) ∧ jS J 196 = (11, 1853) ∧ jS J 197 = (11, 300) ∧ jS J 198 = (11, 64) ∧ jS J 199 = (11, 37060) ∧ jS J 200 = (12, 128) ∧ jS J 201 = (11, 4) ∧ jS J 202 = (11, 144) ∧ jS J 203 = (11, 12) ∧ jS J 204 = (11, 144) ∧ jS J 205 = (11, 12) ∧ jS J 206 = (11, 492) ∧ jS J 207 = (12, 41)
theorem RefL.k {J : MJ} (h : RefL J) : (jS J 188).1 = 10 := h.1
theorem RefL.r0 {J : MJ} (h : RefL J) : jR J 188 0 = some 189 := h.2.1
theorem RefL.r8 {J : MJ} (h : RefL J) : jR J 188 8 = some 190 := h.2.2.1
theorem RefL.r9 {J : MJ} (h : RefL J) : jR J 188 9 = some 191 := h.2.2.2.1
theorem RefL.r14 {J : MJ} (h : RefL J) : jR J 188 14 = some 192 := h.2.2.2.2.1
theorem RefL.r16 {J : MJ} (h : RefL J) : jR J 188 16 = some 193 := h.2.2.2.2.2.1
theorem RefL.r18 {J : MJ} (h : RefL J) : jR J 188 18 = some 194 := h.2.2.2.2.2.2.1
theorem RefL.r19 {J : MJ} (h : RefL J) : jR J 188 19 = some 195 := h.2.2.2.2.2.2.2.1
theorem RefL.r23 {J : MJ} (h : RefL J) : jR J 188 23 = some 196 := h.2.2.2.2.2.2.2.2.1
theorem RefL.r24 {J : MJ} (h : RefL J) : jR J 188 24 = some 197 := h.2.2.2.2.2.2.2.2.2.1
theorem RefL.r26 {J : MJ} (h : RefL J) : jR J 188 26 = some 198 := h.2.2.2.2.2.2.2.2.2.2.1
theorem RefL.r27 {J : MJ} (h : RefL J) : jR J 188 27 = some 199 := h.2.2.2.2.2.2.2.2.2.2.2.1
theorem RefL.r30 {J : MJ} (h : RefL J) : jR J 188 30 = some 200 := h.2.2.2.2.2.2.2.2.2.2.2.2.1
theorem RefL.r33 {J : MJ} (h : RefL J) : jR J 188 33 = some 201 := h.2.2.2.2.2.2.2.2.2.2.2.2.2.1
theorem RefL.r34 {J : MJ} (h : RefL J) : jR J 188 34 = some 202 := h.2.2.2.2.2.2.2.2.2.2.2.2.2.2.1
theorem RefL.r35 {J : MJ} (h : RefL J) : jR J 188 35 = some 203 := h.2.2.2.2.2.2.2.2.2.2.2.2.2.2.2.1
theorem RefL.r39 {J : MJ} (h : RefL J) : jR J 188 39 = some 204 := h.2.2.2.2.2.2.2.2.2.2.2.2.2.2.2.2.1
theorem RefL.r40 {J : MJ} (h : RefL J) : jR J 188 40 = some 205 := h.2.2.2.2.2.2.2.2.2.2.2.2.2.2.2.2.2.1
theorem RefL.r41 {J : MJ} (h : RefL J) : jR J 188 41 = some 206 := h.2.2.2.2.2.2.2.2.2.2.2.2.2.2.2.2.2.2.1
theorem RefL.r42 {J : MJ} (h : RefL J) : jR J 188 42 = some 207 := h.2.2.2.2.2.2.2.2.2.2.2.2.2.2.2.2.2.2.2.1
theorem RefL.s0 {J : MJ} (h : RefL J) : jS J 189 = (11, 400) := h.2.2.2.2.2.2.2.2.2.2.2.2.2.2.2.2.2.2.2.2.1
theorem RefL.s8 {J : MJ} (h : RefL J) : jS J 190 = (11, 6) := h.2.2.2.2.2.2.2.2.2.2.2.2.2.2.2.2.2.2.2.2.2.1
theorem RefL.s9 {J : MJ} (h : RefL J) : jS J 191 = (11, 240) := h.2.2.2.2.2.2.2.2.2.2.2.2.2.2.2.2.2.2.2.2.2.2.1
theorem RefL.s14 {J : MJ} (h : RefL J) : jS J 192 = (11, 64) := h.2.2.2.2.2.2.2.2.2.2.2.2.2.2.2.2.2.2.2.2.2.2.2.1
theorem RefL.s16 {J : MJ} (h : RefL J) : jS J 193 = (11, 64) := h.2.2.2.2.2.2.2.2.2.2.2.2.2.2.2.2.2.2.2.2.2.2.2.2.1
theorem RefL.s18 {J : MJ} (h : RefL J) : jS J 194 = (11, 1853) := h.2.2.2.2.2.2.2.2.2.2.2.2.2.2.2.2.2.2.2.2.2.2.2.2.2.1
theorem RefL.s19 {J : MJ} (h : RefL J) : jS J 195 = (11, 128) := h.2.2.2.2.2.2.2.2.2.2.2.2.2.2.2.2.2.2.2.2.2.2.2.2.2.2.1
theorem RefL.s23 {J : MJ} (h : RefL J) : jS J 196 = (11, 1853) := h.2.2.2.2.2.2.2.2.2.2.2.2.2.2.2.2.2.2.2.2.2.2.2.2.2.2.2.1
theorem RefL.s24 {J : MJ} (h : RefL J) : jS J 197 = (11, 300) := h.2.2.2.2.2.2.2.2.2.2.2.2.2.2.2.2.2.2.2.2.2.2.2.2.2.2.2.2.1
theorem RefL.s26 {J : MJ} (h : RefL J) : jS J 198 = (11, 64) := h.2.2.2.2.2.2.2.2.2.2.2.2.2.2.2.2.2.2.2.2.2.2.2.2.2.2.2.2.2.1
theorem RefL.s27 {J : MJ} (h : RefL J) : jS J 199 = (11, 37060) := h.2.2.2.2.2.2.2.2.2.2.2.2.2.2.2.2.2.2.2.2.2.2.2.2.2.2.2.2.2.2.1
theorem RefL.s30 {J : MJ} (h : RefL J) : jS J 200 = (12, 128) := h.2.2.2.2.2.2.2.2.2.2.2.2.2.2.2.2.2.2.2.2.2.2.2.2.2.2.2.2.2.2.2.1
theorem RefL.s33 {J : MJ} (h : RefL J) : jS J 201 = (11, 4) := h.2.2.2.2.2.2.2.2.2.2.2.2.2.2.2.2.2.2.2.2.2.2.2.2.2.2.2.2.2.2.2.2.1
theorem RefL.s34 {J : MJ} (h : RefL J) : jS J 202 = (11, 144) := h.2.2.2.2.2.2.2.2.2.2.2.2.2.2.2.2.2.2.2.2.2.2.2.2.2.2.2.2.2.2.2.2.2.1
theorem RefL.s35 {J : MJ} (h : RefL J) : jS J 203 = (11, 12) := h.2.2.2.2.2.2.2.2.2.2.2.2.2.2.2.2.2.2.2.2.2.2.2.2.2.2.2.2.2.2.2.2.2.2.1
theorem RefL.s39 {J : MJ} (h : RefL J) : jS J 204 = (11, 144) := h.2.2.2.2.2.2.2.2.2.2.2.2.2.2.2.2.2.2.2.2.2.2.2.2.2.2.2.2.2.2.2.2.2.2.2.1
theorem RefL.s40 {J : MJ} (h : RefL J) : jS J 205 = (11, 12) := h.2.2.2.2.2.2.2.2.2.2.2.2.2.2.2.2.2.2.2.2.2.2.2.2.2.2.2.2.2.2.2.2.2.2.2.2.1
theorem RefL.s41 {J : MJ} (h : RefL J) : jS J 206 = (11, 492) := h.2.2.2.2.2.2.2.2.2.2.2.2.2.2.2.2.2.2.2.2.2.2.2.2.2.2.2.2.2.2.2.2.2.2.2.2.2.1
theorem RefL.s42 {J : MJ} (h : RefL J) : jS J 207 = (12, 41) := h.2.2.2.2.2.2.2.2.2.2.2.2.2.2.2.2.2.2.2.2.2.2.2.2.2.2.2.2.2.2.2.2.2.2.2.2.2.2
theorem c_X10_init {s : MH} (c0 : sz s = 189) (hk : s.2.2.2.1 188 = (10, 43)) (hi : s.1 188 = fun _ => 0) : ∃ s', M_X10_init [mR (some 188)] s = some (none, s') ∧ sz s' = 208 ∧ sl s' = sl s + 43009 ∧ (∀ x, x < 188 → Sm s s' x) ∧ RefL s'.2 ∧ s'.2.1 188 31 = 1 ∧ (s'.1 188 = fun y => if y = 7 ∨ y = 20 ∨ y = 21 ∨ y = 37 then -1 else 0) ∧ ∀ x, 189 ≤ x → x < 208 → s'.1 x = fun _ => 0 := by
  have k0 : kd s 188 = 10 := congrArg Prod.fst hk
  have a0 := aws_a 188 [(11, 400, 0)] s (by omega)
  have w0 := aws_sz 188 [(11, 400, 0)] s
  have m0 := aws_sm 188 [(11, 400, 0)] s
  have n0 := fun i q hq => aws_new 188 [(11, 400, 0)] s i q (by omega) hq
  have e0 : ∀ f : MH → Option MO, ((nw s 11 400).bind fun p0 => (wR p0 10 188 0 (some (sz s))).bind f) = f (aws 188 [(11, 400, 0)] s) := by
    intro f
    show ((nw (aws 188 [] s) 11 400).bind fun s1 => (wR s1 10 188 0 (some (sz (aws 188 [] s)))).bind _) = _
    rw [aw_step k0 (by omega) _ 11 400 0 400 (by decide) (by decide) (by decide)]
    rfl
  generalize ht0 : aws 188 [(11, 400, 0)] s = t0 at a0 w0 m0 n0 e0
  have kt0 : kd t0 188 = 10 := (congrArg Prod.fst a0.2.2.1).trans k0
  have ct0 : sz t0 = 190 := by rw [w0.1, c0]; rfl
  rw [c0] at n0
  generalize hv0 : sI t0 188 7 (-1) = v0
  have k1 : kd v0 188 = 10 := by rw [← hv0]; exact kt0
  have cv0 : sz v0 = 190 := by rw [← hv0]; exact ct0
  have bv0 : sl v0 = sl t0 := by rw [← hv0]
  have jv0 : v0.2 = t0.2 := by rw [← hv0]
  have uv0 : ∀ x, x ≠ 188 → Sm t0 v0 x := fun x q => by
    rw [← hv0]
    refine ⟨?_, rfl, rfl, rfl⟩
    funext y
    simp [up2, q]
  have rrv0 : v0.2.2.1 = t0.2.2.1 := by rw [← hv0]
  have a1 := aws_a 188 [(11, 6, 8), (11, 240, 9), (11, 64, 14), (11, 64, 16), (11, 1853, 18), (11, 128, 19)] v0 (by omega)
  have w1 := aws_sz 188 [(11, 6, 8), (11, 240, 9), (11, 64, 14), (11, 64, 16), (11, 1853, 18), (11, 128, 19)] v0
  have m1 := aws_sm 188 [(11, 6, 8), (11, 240, 9), (11, 64, 14), (11, 64, 16), (11, 1853, 18), (11, 128, 19)] v0
  have n1 := fun i q hq => aws_new 188 [(11, 6, 8), (11, 240, 9), (11, 64, 14), (11, 64, 16), (11, 1853, 18), (11, 128, 19)] v0 i q (by omega) hq
  have e1 : ∀ f : MH → Option MO, ((nw v0 11 6).bind fun p0 => (wR p0 10 188 8 (some (sz v0))).bind fun q0 => (nw q0 11 240).bind fun p1 => (wR p1 10 188 9 (some (sz q0))).bind fun q1 => (nw q1 11 64).bind fun p2 => (wR p2 10 188 14 (some (sz q1))).bind fun q2 => (nw q2 11 64).bind fun p3 => (wR p3 10 188 16 (some (sz q2))).bind fun q3 => (nw q3 11 1853).bind fun p4 => (wR p4 10 188 18 (some (sz q3))).bind fun q4 => (nw q4 11 128).bind fun p5 => (wR p5 10 188 19 (some (sz q4))).bind f) = f (aws 188 [(11, 6, 8), (11, 240, 9), (11, 64, 14), (11, 64, 16), (11, 1853, 18), (11, 128, 19)] v0) := by
    intro f
    show ((nw (aws 188 [] v0) 11 6).bind fun s1 => (wR s1 10 188 8 (some (sz (aws 188 [] v0)))).bind _) = _
    rw [aw_step k1 (by omega) _ 11 6 8 6 (by decide) (by decide) (by decide), aw_step k1 (by omega) _ 11 240 9 240 (by decide) (by decide) (by decide), aw_step k1 (by omega) _ 11 64 14 64 (by decide) (by decide) (by decide), aw_step k1 (by omega) _ 11 64 16 64 (by decide) (by decide) (by decide), aw_step k1 (by omega) _ 11 1853 18 1853 (by decide) (by decide) (by decide), aw_step k1 (by omega) _ 11 128 19 128 (by decide) (by decide) (by decide)]
    rfl
  generalize ht1 : aws 188 [(11, 6, 8), (11, 240, 9), (11, 64, 14), (11, 64, 16), (11, 1853, 18), (11, 128, 19)] v0 = t1 at a1 w1 m1 n1 e1
  have kt1 : kd t1 188 = 10 := (congrArg Prod.fst a1.2.2.1).trans k1
  have ct1 : sz t1 = 196 := by rw [w1.1, cv0]; rfl
  rw [cv0] at n1
  generalize hv1 : sI (sI t1 188 20 (-1)) 188 21 (-1) = v1
  have k2 : kd v1 188 = 10 := by rw [← hv1]; exact kt1
  have cv1 : sz v1 = 196 := by rw [← hv1]; exact ct1
  have bv1 : sl v1 = sl t1 := by rw [← hv1]
  have jv1 : v1.2 = t1.2 := by rw [← hv1]
  have uv1 : ∀ x, x ≠ 188 → Sm t1 v1 x := fun x q => by
    rw [← hv1]
    refine ⟨?_, rfl, rfl, rfl⟩
    funext y
    simp [up2, q]
  have rrv1 : v1.2.2.1 = t1.2.2.1 := by rw [← hv1]
  have a2 := aws_a 188 [(11, 1853, 23), (11, 300, 24), (11, 64, 26), (11, 37060, 27), (12, 128, 30)] v1 (by omega)
  have w2 := aws_sz 188 [(11, 1853, 23), (11, 300, 24), (11, 64, 26), (11, 37060, 27), (12, 128, 30)] v1
  have m2 := aws_sm 188 [(11, 1853, 23), (11, 300, 24), (11, 64, 26), (11, 37060, 27), (12, 128, 30)] v1
  have n2 := fun i q hq => aws_new 188 [(11, 1853, 23), (11, 300, 24), (11, 64, 26), (11, 37060, 27), (12, 128, 30)] v1 i q (by omega) hq
  have e2 : ∀ f : MH → Option MO, ((nw v1 11 1853).bind fun p0 => (wR p0 10 188 23 (some (sz v1))).bind fun q0 => (nw q0 11 300).bind fun p1 => (wR p1 10 188 24 (some (sz q0))).bind fun q1 => (nw q1 11 64).bind fun p2 => (wR p2 10 188 26 (some (sz q1))).bind fun q2 => (nw q2 11 37060).bind fun p3 => (wR p3 10 188 27 (some (sz q2))).bind fun q3 => (nw q3 12 128).bind fun p4 => (wR p4 10 188 30 (some (sz q3))).bind f) = f (aws 188 [(11, 1853, 23), (11, 300, 24), (11, 64, 26), (11, 37060, 27), (12, 128, 30)] v1) := by
    intro f
    show ((nw (aws 188 [] v1) 11 1853).bind fun s1 => (wR s1 10 188 23 (some (sz (aws 188 [] v1)))).bind _) = _
    rw [aw_step k2 (by omega) _ 11 1853 23 1853 (by decide) (by decide) (by decide), aw_step k2 (by omega) _ 11 300 24 300 (by decide) (by decide) (by decide), aw_step k2 (by omega) _ 11 64 26 64 (by decide) (by decide) (by decide), aw_step k2 (by omega) _ 11 37060 27 37060 (by decide) (by decide) (by decide), aw_step k2 (by omega) _ 12 128 30 128 (by decide) (by decide) (by decide)]
    rfl
  generalize ht2 : aws 188 [(11, 1853, 23), (11, 300, 24), (11, 64, 26), (11, 37060, 27), (12, 128, 30)] v1 = t2 at a2 w2 m2 n2 e2
  have kt2 : kd t2 188 = 10 := (congrArg Prod.fst a2.2.2.1).trans k2
  have ct2 : sz t2 = 201 := by rw [w2.1, cv1]; rfl
  rw [cv1] at n2
  generalize hv2 : sL t2 188 31 1 = v2
  have k3 : kd v2 188 = 10 := by rw [← hv2]; exact kt2
  have cv2 : sz v2 = 201 := by rw [← hv2]; exact ct2
  have bv2 : sl v2 = sl t2 := by rw [← hv2]
  have uv2 : ∀ x, x ≠ 188 → Sm t2 v2 x := fun x q => by
    rw [← hv2]
    refine ⟨rfl, ?_, rfl, rfl⟩
    funext y
    simp [up2, q]
  have rrv2 : v2.2.2.1 = t2.2.2.1 := by rw [← hv2]
  have a3 := aws_a 188 [(11, 4, 33), (11, 144, 34), (11, 12, 35)] v2 (by omega)
  have w3 := aws_sz 188 [(11, 4, 33), (11, 144, 34), (11, 12, 35)] v2
  have m3 := aws_sm 188 [(11, 4, 33), (11, 144, 34), (11, 12, 35)] v2
  have n3 := fun i q hq => aws_new 188 [(11, 4, 33), (11, 144, 34), (11, 12, 35)] v2 i q (by omega) hq
  have e3 : ∀ f : MH → Option MO, ((nw v2 11 4).bind fun p0 => (wR p0 10 188 33 (some (sz v2))).bind fun q0 => (nw q0 11 144).bind fun p1 => (wR p1 10 188 34 (some (sz q0))).bind fun q1 => (nw q1 11 12).bind fun p2 => (wR p2 10 188 35 (some (sz q1))).bind f) = f (aws 188 [(11, 4, 33), (11, 144, 34), (11, 12, 35)] v2) := by
    intro f
    show ((nw (aws 188 [] v2) 11 4).bind fun s1 => (wR s1 10 188 33 (some (sz (aws 188 [] v2)))).bind _) = _
    rw [aw_step k3 (by omega) _ 11 4 33 4 (by decide) (by decide) (by decide), aw_step k3 (by omega) _ 11 144 34 144 (by decide) (by decide) (by decide), aw_step k3 (by omega) _ 11 12 35 12 (by decide) (by decide) (by decide)]
    rfl
  generalize ht3 : aws 188 [(11, 4, 33), (11, 144, 34), (11, 12, 35)] v2 = t3 at a3 w3 m3 n3 e3
  have kt3 : kd t3 188 = 10 := (congrArg Prod.fst a3.2.2.1).trans k3
  have ct3 : sz t3 = 204 := by rw [w3.1, cv2]; rfl
  rw [cv2] at n3
  generalize hv3 : sI t3 188 37 (-1) = v3
  have k4 : kd v3 188 = 10 := by rw [← hv3]; exact kt3
  have cv3 : sz v3 = 204 := by rw [← hv3]; exact ct3
  have bv3 : sl v3 = sl t3 := by rw [← hv3]
  have jv3 : v3.2 = t3.2 := by rw [← hv3]
  have uv3 : ∀ x, x ≠ 188 → Sm t3 v3 x := fun x q => by
    rw [← hv3]
    refine ⟨?_, rfl, rfl, rfl⟩
    funext y
    simp [up2, q]
  have rrv3 : v3.2.2.1 = t3.2.2.1 := by rw [← hv3]
  have a4 := aws_a 188 [(11, 144, 39), (11, 12, 40), (11, 492, 41), (12, 41, 42)] v3 (by omega)
  have w4 := aws_sz 188 [(11, 144, 39), (11, 12, 40), (11, 492, 41), (12, 41, 42)] v3
  have m4 := aws_sm 188 [(11, 144, 39), (11, 12, 40), (11, 492, 41), (12, 41, 42)] v3
  have n4 := fun i q hq => aws_new 188 [(11, 144, 39), (11, 12, 40), (11, 492, 41), (12, 41, 42)] v3 i q (by omega) hq
  have e4 : ∀ f : MH → Option MO, ((nw v3 11 144).bind fun p0 => (wR p0 10 188 39 (some (sz v3))).bind fun q0 => (nw q0 11 12).bind fun p1 => (wR p1 10 188 40 (some (sz q0))).bind fun q1 => (nw q1 11 492).bind fun p2 => (wR p2 10 188 41 (some (sz q1))).bind fun q2 => (nw q2 12 41).bind fun p3 => (wR p3 10 188 42 (some (sz q2))).bind f) = f (aws 188 [(11, 144, 39), (11, 12, 40), (11, 492, 41), (12, 41, 42)] v3) := by
    intro f
    show ((nw (aws 188 [] v3) 11 144).bind fun s1 => (wR s1 10 188 39 (some (sz (aws 188 [] v3)))).bind _) = _
    rw [aw_step k4 (by omega) _ 11 144 39 144 (by decide) (by decide) (by decide), aw_step k4 (by omega) _ 11 12 40 12 (by decide) (by decide) (by decide), aw_step k4 (by omega) _ 11 492 41 492 (by decide) (by decide) (by decide), aw_step k4 (by omega) _ 12 41 42 41 (by decide) (by decide) (by decide)]
    rfl
  generalize ht4 : aws 188 [(11, 144, 39), (11, 12, 40), (11, 492, 41), (12, 41, 42)] v3 = t4 at a4 w4 m4 n4 e4
  have kt4 : kd t4 188 = 10 := (congrArg Prod.fst a4.2.2.1).trans k4
  have ct4 : sz t4 = 208 := by rw [w4.1, cv3]; rfl
  rw [cv3] at n4
  have T4 : ∀ x, x < 208 → x ≠ 188 → Sm t4 t4 x := fun x _ _ => Sm.refl _ x
  have T3 : ∀ x, x < 204 → x ≠ 188 → Sm t3 t4 x := fun x h1 h2 => ((uv3 x h2).trans (m4 x (by omega) h2)).trans (T4 x (by omega) h2)
  have T2 : ∀ x, x < 201 → x ≠ 188 → Sm t2 t4 x := fun x h1 h2 => ((uv2 x h2).trans (m3 x (by omega) h2)).trans (T3 x (by omega) h2)
  have T1 : ∀ x, x < 196 → x ≠ 188 → Sm t1 t4 x := fun x h1 h2 => ((uv1 x h2).trans (m2 x (by omega) h2)).trans (T2 x (by omega) h2)
  have T0 : ∀ x, x < 190 → x ≠ 188 → Sm t0 t4 x := fun x h1 h2 => ((uv0 x h2).trans (m1 x (by omega) h2)).trans (T1 x (by omega) h2)
  refine ⟨t4, ?_, ct4, ?_, ?_, ?_, ?_, ?_, ?_⟩
  · rw [E_X10_init, e0, show wI t0 10 188 7 (-1) = some (sI t0 188 7 (-1)) from if_pos kt0, Option.bind_some, hv0, e1, show wI t1 10 188 20 (-1) = some (sI t1 188 20 (-1)) from if_pos kt1, Option.bind_some, show wI (sI t1 188 20 (-1)) 10 188 21 (-1) = some (sI (sI t1 188 20 (-1)) 188 21 (-1)) from if_pos kt1, Option.bind_some, hv1, e2, show wL t2 10 188 31 1 = some (sL t2 188 31 1) from if_pos kt2, Option.bind_some, hv2, e3, show wI t3 10 188 37 (-1) = some (sI t3 188 37 (-1)) from if_pos kt3, Option.bind_some, hv3, e4]
  · rewrite [w4.2, bv3, w3.2, bv2, w2.2, bv1, w1.2, bv0, w0.2, show slo [(11, 400, 0)] = 400 by decide, show slo [(11, 6, 8), (11, 240, 9), (11, 64, 14), (11, 64, 16), (11, 1853, 18), (11, 128, 19)] = 2355 by decide, show slo [(11, 1853, 23), (11, 300, 24), (11, 64, 26), (11, 37060, 27), (12, 128, 30)] = 39405 by decide, show slo [(11, 4, 33), (11, 144, 34), (11, 12, 35)] = 160 by decide, show slo [(11, 144, 39), (11, 12, 40), (11, 492, 41), (12, 41, 42)] = 689 by decide]
    omega
  · intro x hx
    exact (m0 x (by omega) (by omega)).trans (T0 x (by omega) (by omega))
  · have R4 : ∀ k, t4.2.2.1 188 k = match rk [(11, 144, 39), (11, 12, 40), (11, 492, 41), (12, 41, 42)] 204 k with
      | some x => some x
      | none => t3.2.2.1 188 k := fun k => by rw [a4.2.2.2 k, cv3, rrv3]; rfl
    have R3 : ∀ k, t3.2.2.1 188 k = match rk [(11, 4, 33), (11, 144, 34), (11, 12, 35)] 201 k with
      | some x => some x
      | none => t2.2.2.1 188 k := fun k => by rw [a3.2.2.2 k, cv2, rrv2]; rfl
    have R2 : ∀ k, t2.2.2.1 188 k = match rk [(11, 1853, 23), (11, 300, 24), (11, 64, 26), (11, 37060, 27), (12, 128, 30)] 196 k with
      | some x => some x
      | none => t1.2.2.1 188 k := fun k => by rw [a2.2.2.2 k, cv1, rrv1]; rfl
    have R1 : ∀ k, t1.2.2.1 188 k = match rk [(11, 6, 8), (11, 240, 9), (11, 64, 14), (11, 64, 16), (11, 1853, 18), (11, 128, 19)] 190 k with
      | some x => some x
      | none => t0.2.2.1 188 k := fun k => by rw [a1.2.2.2 k, cv0, rrv0]; rfl
    have R0 : ∀ k, t0.2.2.1 188 k = match rk [(11, 400, 0)] 189 k with
      | some x => some x
      | none => s.2.2.1 188 k := fun k => by rw [a0.2.2.2 k, c0]; rfl
    refine ⟨kt4, (((((R4 0).trans (R3 0)).trans (R2 0)).trans (R1 0)).trans (R0 0)), ((((R4 8).trans (R3 8)).trans (R2 8)).trans (R1 8)), ((((R4 9).trans (R3 9)).trans (R2 9)).trans (R1 9)), ((((R4 14).trans (R3 14)).trans (R2 14)).trans (R1 14)), ((((R4 16).trans (R3 16)).trans (R2 16)).trans (R1 16)), ((((R4 18).trans (R3 18)).trans (R2 18)).trans (R1 18)), ((((R4 19).trans (R3 19)).trans (R2 19)).trans (R1 19)), (((R4 23).trans (R3 23)).trans (R2 23)), (((R4 24).trans (R3 24)).trans (R2 24)), (((R4 26).trans (R3 26)).trans (R2 26)), (((R4 27).trans (R3 27)).trans (R2 27)), (((R4 30).trans (R3 30)).trans (R2 30)), ((R4 33).trans (R3 33)), ((R4 34).trans (R3 34)), ((R4 35).trans (R3 35)), (R4 39), (R4 40), (R4 41), (R4 42), (T0 189 (by decide) (by decide)).2.2.2.trans (n0 0 _ rfl).2.1, (T1 190 (by decide) (by decide)).2.2.2.trans (n1 0 _ rfl).2.1, (T1 191 (by decide) (by decide)).2.2.2.trans (n1 1 _ rfl).2.1, (T1 192 (by decide) (by decide)).2.2.2.trans (n1 2 _ rfl).2.1, (T1 193 (by decide) (by decide)).2.2.2.trans (n1 3 _ rfl).2.1, (T1 194 (by decide) (by decide)).2.2.2.trans (n1 4 _ rfl).2.1, (T1 195 (by decide) (by decide)).2.2.2.trans (n1 5 _ rfl).2.1, (T2 196 (by decide) (by decide)).2.2.2.trans (n2 0 _ rfl).2.1, (T2 197 (by decide) (by decide)).2.2.2.trans (n2 1 _ rfl).2.1, (T2 198 (by decide) (by decide)).2.2.2.trans (n2 2 _ rfl).2.1, (T2 199 (by decide) (by decide)).2.2.2.trans (n2 3 _ rfl).2.1, (T2 200 (by decide) (by decide)).2.2.2.trans (n2 4 _ rfl).2.1, (T3 201 (by decide) (by decide)).2.2.2.trans (n3 0 _ rfl).2.1, (T3 202 (by decide) (by decide)).2.2.2.trans (n3 1 _ rfl).2.1, (T3 203 (by decide) (by decide)).2.2.2.trans (n3 2 _ rfl).2.1, (T4 204 (by decide) (by decide)).2.2.2.trans (n4 0 _ rfl).2.1, (T4 205 (by decide) (by decide)).2.2.2.trans (n4 1 _ rfl).2.1, (T4 206 (by decide) (by decide)).2.2.2.trans (n4 2 _ rfl).2.1, (T4 207 (by decide) (by decide)).2.2.2.trans (n4 3 _ rfl).2.1⟩
  · rw [a4.2.1, show v3.2.1 = t3.2.1 by rw [← hv3], a3.2.1, ← hv2]
    simp [up2]
  · rw [a4.1, ← hv3]
    funext y
    show up2 t3.1 188 37 (-1) 188 y = _
    have e3 : t3.1 188 = t2.1 188 := by rw [a3.1, ← hv2]
    have e1 : t2.1 188 = v1.1 188 := a2.1
    have e2 : t1.1 188 = v0.1 188 := a1.1
    unfold up2
    by_cases q37 : y = 37
    · simp [q37]
    · rw [if_neg (fun q => q37 q.2), e3, e1, ← hv1]
      show up2 (up2 t1.1 188 20 (-1)) 188 21 (-1) 188 y = _
      unfold up2
      by_cases q21 : y = 21
      · simp [q21]
      · rw [if_neg (fun q => q21 q.2)]
        by_cases q20 : y = 20
        · simp [q20]
        · rw [if_neg (fun q => q20 q.2), e2, ← hv0]
          show up2 t0.1 188 7 (-1) 188 y = _
          unfold up2
          by_cases q7 : y = 7
          · simp [q7]
          · rw [if_neg (fun q => q7 q.2), a0.1, hi]
            simp [q7, q20, q21, q37]
  · intro x h1 h2
    by_cases e189 : x = 189
    · subst e189
      exact (T0 189 (by decide) (by decide)).1.trans (n0 0 _ rfl).1
    by_cases e190 : x = 190
    · subst e190
      exact (T1 190 (by decide) (by decide)).1.trans (n1 0 _ rfl).1
    by_cases e191 : x = 191
    · subst e191
      exact (T1 191 (by decide) (by decide)).1.trans (n1 1 _ rfl).1
    by_cases e192 : x = 192
    · subst e192
      exact (T1 192 (by decide) (by decide)).1.trans (n1 2 _ rfl).1
    by_cases e193 : x = 193
    · subst e193
      exact (T1 193 (by decide) (by decide)).1.trans (n1 3 _ rfl).1
    by_cases e194 : x = 194
    · subst e194
      exact (T1 194 (by decide) (by decide)).1.trans (n1 4 _ rfl).1
    by_cases e195 : x = 195
    · subst e195
      exact (T1 195 (by decide) (by decide)).1.trans (n1 5 _ rfl).1
    by_cases e196 : x = 196
    · subst e196
      exact (T2 196 (by decide) (by decide)).1.trans (n2 0 _ rfl).1
    by_cases e197 : x = 197
    · subst e197
      exact (T2 197 (by decide) (by decide)).1.trans (n2 1 _ rfl).1
    by_cases e198 : x = 198
    · subst e198
      exact (T2 198 (by decide) (by decide)).1.trans (n2 2 _ rfl).1
    by_cases e199 : x = 199
    · subst e199
      exact (T2 199 (by decide) (by decide)).1.trans (n2 3 _ rfl).1
    by_cases e200 : x = 200
    · subst e200
      exact (T2 200 (by decide) (by decide)).1.trans (n2 4 _ rfl).1
    by_cases e201 : x = 201
    · subst e201
      exact (T3 201 (by decide) (by decide)).1.trans (n3 0 _ rfl).1
    by_cases e202 : x = 202
    · subst e202
      exact (T3 202 (by decide) (by decide)).1.trans (n3 1 _ rfl).1
    by_cases e203 : x = 203
    · subst e203
      exact (T3 203 (by decide) (by decide)).1.trans (n3 2 _ rfl).1
    by_cases e204 : x = 204
    · subst e204
      exact (T4 204 (by decide) (by decide)).1.trans (n4 0 _ rfl).1
    by_cases e205 : x = 205
    · subst e205
      exact (T4 205 (by decide) (by decide)).1.trans (n4 1 _ rfl).1
    by_cases e206 : x = 206
    · subst e206
      exact (T4 206 (by decide) (by decide)).1.trans (n4 2 _ rfl).1
    by_cases e207 : x = 207
    · subst e207
      exact (T4 207 (by decide) (by decide)).1.trans (n4 3 _ rfl).1
    omega
end

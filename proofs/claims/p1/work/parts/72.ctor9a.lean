/-! Towards the keeper's constructor: a tape, a history, a reader, a trace. -/
def Bw (J J' : MJ) (a b : Nat) : Prop := ∀ x, a ≤ x → x < b → jR J' x = jR J x ∧ jS J' x = jS J x
theorem NodL.bw {J J' : MJ} {n b : Nat} (h : NodL J n) (g : Bw J J' n b) (e : n + 6 ≤ b) : NodL J' n := by
  unfold NodL
  rw [(g n (by omega) (by omega)).1, (g n (by omega) (by omega)).2, (g (n + 1) (by omega) (by omega)).2, (g (n + 2) (by omega) (by omega)).2, (g (n + 3) (by omega) (by omega)).2, (g (n + 4) (by omega) (by omega)).2, (g (n + 5) (by omega) (by omega)).2]
  exact h
theorem MemL.bw {J J' : MJ} {m n b : Nat} (h : MemL J m n) (g : Bw J J' m b) (e : m + 12 ≤ b) : MemL J' m n := by
  unfold MemL
  rw [(g m (by omega) (by omega)).1, (g m (by omega) (by omega)).2, (g (m + 1) (by omega) (by omega)).2, (g (m + 2) (by omega) (by omega)).2, (g (m + 3) (by omega) (by omega)).2, (g (m + 4) (by omega) (by omega)).2, (g (m + 5) (by omega) (by omega)).2, (g (m + 6) (by omega) (by omega)).2, (g (m + 7) (by omega) (by omega)).2, (g (m + 8) (by omega) (by omega)).2, (g (m + 9) (by omega) (by omega)).2, (g (m + 10) (by omega) (by omega)).2, (g (m + 11) (by omega) (by omega)).2]
  exact h
theorem RouL.bw {J J' : MJ} {r L b : Nat} (h : RouL J r L) (g : Bw J J' r b) (e : r + 2 ≤ b) : RouL J' r L := by
  unfold RouL
  rw [(g r (by omega) (by omega)).1, (g r (by omega) (by omega)).2, (g (r + 1) (by omega) (by omega)).2]
  exact h
theorem TapL.bw {J J' : MJ} {t b : Nat} (h : TapL J t) (g : Bw J J' t b) (e : t + 2 ≤ b) : TapL J' t := by
  unfold TapL
  rw [(g t (by omega) (by omega)).1, (g t (by omega) (by omega)).2, (g (t + 1) (by omega) (by omega)).2]
  exact h
theorem WorL.bw {J J' : MJ} {o n m c z b : Nat} (h : WorL J o n m c z) (g : Bw J J' o b) (e : o + 1 ≤ b) : WorL J' o n m c z := by
  unfold WorL
  rw [(g o (by omega) (by omega)).1, (g o (by omega) (by omega)).2]
  exact h
theorem HanL.bw {J J' : MJ} {c b : Nat} (h : HanL J c) (g : Bw J J' c b) (e : c + 1 ≤ b) : HanL J' c := by
  unfold HanL
  rw [(g c (by omega) (by omega)).2]
  exact h
theorem RdrL.bw {J J' : MJ} {r n b : Nat} (h : RdrL J r n) (g : Bw J J' r b) (e : r + 1 ≤ b) : RdrL J' r n := by
  unfold RdrL
  rw [(g r (by omega) (by omega)).1, (g r (by omega) (by omega)).2]
  exact h
theorem WksL.bw {J J' : MJ} {z w b : Nat} (h : WksL J z w) (g : Bw J J' z b) (e : z < w) (e2 : w + 24 ≤ b) : WksL J' z w := by
  refine ⟨?_, fun k hk => ⟨?_, ?_, ?_, ?_⟩⟩
  · rw [(g z (by omega) (by omega)).2]; exact h.1
  · rw [(g z (by omega) (by omega)).1]; exact (h.2 k hk).1
  · unfold WalL
    rw [(g (w + 6 * k) (by omega) (by omega)).1, (g (w + 6 * k) (by omega) (by omega)).2]
    exact (h.2 k hk).2.1
  · exact (h.2 k hk).2.2.1.bw (fun x h1 h2 => g x (by omega) h2) (by omega)
  · unfold BufL
    rw [(g (w + 6 * k + 3) (by omega) (by omega)).2, (g (w + 6 * k + 3 + 1) (by omega) (by omega)).2, (g (w + 6 * k + 3 + 2) (by omega) (by omega)).2]
    exact (h.2 k hk).2.2.2
theorem HisL.bw {J J' : MJ} {a b : Nat} (h : HisL J a (a + 1)) (g : Bw J J' a b) (e : a + 2 ≤ b) : HisL J' a (a + 1) := by
  unfold HisL
  rw [(g a (by omega) (by omega)).1, (g a (by omega) (by omega)).2, (g (a + 1) (by omega) (by omega)).2]
  exact h
theorem n_X5 (s : MH) : ∃ s', M_X5_init [mR (some (sz s))] (al s 5 2) = some (none, s') ∧ Gw s s' 2 402 ∧ TapL s'.2 (sz s) ∧ ∀ x, sz s ≤ x → x < sz s + 2 → s'.1 x = fun _ => 0 := by
  have h := new_aws s 5 2 [(11, 400, 0)]
  refine ⟨aws (sz s) [(11, 400, 0)] (al s 5 2), ?_, h.1, ⟨congrArg Prod.fst h.2.1, h.2.2.1 0, h.2.2.2.1 0 _ rfl⟩, fun x h1 h2 => h.2.2.2.2 x h1 h2⟩
  have k0 : kd (al s 5 2) (sz s) = 5 := al_kd s 5 2
  have k9 : sz s < sz (al s 5 2) := Nat.lt_succ_self _
  rw [E_X5_init]
  show ((nw (aws (sz s) [] (al s 5 2)) 11 400).bind fun s1 => (wR s1 5 (sz s) 0 (some (sz (aws (sz s) [] (al s 5 2))))).bind _) = _
  rw [aw_step k0 k9 _ 11 400 0 400 (by decide) (by decide) (by decide)]
  rfl
theorem n_X0 (s : MH) : ∃ s', M_X0_init [mR (some (sz s))] (al s 0 3) = some (none, s') ∧ Gw s s' 2 23 ∧ HisL s'.2 (sz s) (sz s + 1) ∧ (∀ k, jR s'.2 (sz s + 1) k = none) ∧ ∀ x, sz s ≤ x → x < sz s + 2 → s'.1 x = fun _ => 0 := by
  have h := new_aws s 0 3 [(15, 20, 0)]
  refine ⟨aws (sz s) [(15, 20, 0)] (al s 0 3), ?_, h.1, ⟨congrArg Prod.fst h.2.1, h.2.2.1 0, h.2.2.2.1 0 _ rfl⟩, fun k => congrFun (aws_new (sz s) [(15, 20, 0)] (al s 0 3) 0 _ (Nat.lt_succ_self _) rfl).2.2 k, fun x h1 h2 => h.2.2.2.2 x h1 h2⟩
  have k0 : kd (al s 0 3) (sz s) = 0 := al_kd s 0 3
  have k9 : sz s < sz (al s 0 3) := Nat.lt_succ_self _
  rw [E_X0_init]
  show ((nw (aws (sz s) [] (al s 0 3)) 15 20).bind fun s1 => (wR s1 0 (sz s) 0 (some (sz (aws (sz s) [] (al s 0 3))))).bind _) = _
  rw [aw_step k0 k9 _ 15 20 0 20 (by decide) (by decide) (by decide)]
  rfl
theorem n_X3 (s : MH) : ∃ s', M_X3_init [mR (some (sz s))] (al s 3 7) = some (none, s') ∧ Gw s s' 7 257 ∧ RdrL s'.2 (sz s) (sz s + 1) ∧ NodL s'.2 (sz s + 1) ∧ (∀ x, sz s < x → x < sz s + 7 → s'.1 x = fun _ => 0) ∧ s'.1 (sz s) = fun y => if y = 2 then -1 else 0 := by
  obtain ⟨s1, e1, g1, l1, z1⟩ := n_X2 (al s 3 7)
  have q1 : sz (al s 3 7) = sz s + 1 := rfl
  rw [q1] at e1 l1 z1
  have k1 : s1.2.2.2.1 (sz s) = (3, 7) := (g1.2.2 (sz s) (Nat.lt_succ_self _)).2.2.2.trans (al_k s 3 7)
  have i1 : s1.1 (sz s) = fun _ => 0 := (g1.2.2 (sz s) (Nat.lt_succ_self _)).1.trans (al_0 s 3 7)
  have kd1 : kd s1 (sz s) = 3 := congrArg Prod.fst k1
  refine ⟨sI (sR s1 (sz s) 0 (some (sz s + 1))) (sz s) 2 (-1), ?_, ⟨?_, ?_, fun x hx => ?_⟩, ?_, ?_, ?_, ?_⟩
  · rw [E_X3_init, if_pos (show kd (al (al s 3 7) 2 7) (sz s + 1) = 2 from al_kd (al s 3 7) 2 7)]
    show (M_X2_init [mR (some (sz s + 1))] (al (al s 3 7) 2 7)).bind _ = _
    rw [e1]
    simp only [Option.bind_some, asV_n]
    rw [wR_ok kd1, Option.bind_some, show wI (sR s1 (sz s) 0 (some (sz (al s 3 7)))) 3 (sz s) 2 (-1) = some (sI (sR s1 (sz s) 0 (some (sz s + 1))) (sz s) 2 (-1)) from if_pos kd1]
    rfl
  · show sz s1 = _
    rw [g1.1]
  · show sl s1 = _
    rw [g1.2.1]
  · have a := (al_sm s 3 7 x (Nat.ne_of_lt hx)).trans (g1.2.2 x (Nat.lt_succ_of_lt hx))
    have b := sR_sm s1 (sz s) 0 (some (sz s + 1)) x (Nat.ne_of_lt hx)
    refine (a.trans b).trans ⟨?_, rfl, rfl, rfl⟩
    funext y
    exact if_neg (fun q => absurd q.1 (Nat.ne_of_lt hx))
  · refine ⟨kd1, ?_⟩
    show (if sz s = sz s ∧ 0 = 0 then some (sz s + 1) else _) = _
    rw [if_pos ⟨rfl, rfl⟩]
  · refine l1.bw (b := sz s + 7) (fun x h1 h2 => ⟨?_, rfl⟩) (by omega)
    funext y
    exact if_neg (fun q => by have := q.1; omega)
  · intro x h1 h2
    funext y
    show (if x = sz s ∧ y = 2 then _ else s1.1 x y) = _
    rw [if_neg (fun q => by have := q.1; omega), z1 x (by omega) (by omega)]
  · funext y
    show (if sz s = sz s ∧ y = 2 then _ else s1.1 (sz s) y) = _
    rw [i1]
    by_cases e : y = 2
    · rw [if_pos ⟨rfl, e⟩, if_pos e]
    · rw [if_neg (fun q => e q.2), if_neg e]

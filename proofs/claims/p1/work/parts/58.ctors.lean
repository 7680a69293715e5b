/-! New objects, on. Written by gen/ctors.py. -/
def rowsM : List (Nat × Nat × Nat) := [(11, 64, 1), (11, 64, 2), (11, 64, 3), (11, 64, 4), (11, 64, 5), (11, 64, 6), (11, 64, 7), (11, 64, 8), (11, 3, 9), (11, 3, 10), (11, 2, 15)]
theorem n_X1 (s : MH) (n : Nat) : ∃ s', M_X1_init [mR (some (sz s)), mR (some n)] (al s 1 17) = some (none, s') ∧ Gw s s' 12 537 ∧ MemL s'.2 (sz s) n ∧ ∀ x, sz s ≤ x → x < sz s + 12 → s'.1 x = fun y => if (x = sz s + 9 ∨ x = sz s + 10) ∧ y < 3 then -1 else 0 := by
  have h := new_aws s 1 17 rowsM
  have r := h.2.2.1
  have t := h.2.2.2.1
  generalize hs1 : sR (aws (sz s) rowsM (al s 1 17)) (sz s) 0 (some n) = s1
  have k1 : kd s1 (sz s) = 1 := by rw [← hs1]; exact congrArg Prod.fst h.2.1
  have r1 : ∀ k, k ≠ 0 → s1.2.2.1 (sz s) k = rk rowsM (sz s + 1) k := fun k hk => by
    rw [← hs1]
    exact (if_neg (fun q => hk q.2)).trans (r k)
  have t1 : ∀ i q, rowsM[i]? = some q → s1.2.2.2.1 (sz s + 1 + i) = (q.1, q.2.1) := fun i q hq => by
    rw [← hs1]
    exact t i q hq
  refine ⟨(fun x y => if x = sz s + 10 ∧ y < 3 then -1 else if x = sz s + 9 ∧ y < 3 then -1 else s1.1 x y, s1.2), ?_, ?_, ?_, ?_⟩
  · have k0 : kd (al s 1 17) (sz s) = 1 := al_kd s 1 17
    have k9 : sz s < sz (al s 1 17) := Nat.lt_succ_self _
    rw [E_X1_init]
    show ((nw (aws (sz s) [] (al s 1 17)) 11 64).bind fun s1 => (wR s1 1 (sz s) 1 (some (sz (aws (sz s) [] (al s 1 17))))).bind _) = _
    rw [aw_step k0 k9 _ 11 64 1 64 (by decide) (by decide) (by decide), aw_step k0 k9 _ 11 64 2 64 (by decide) (by decide) (by decide), aw_step k0 k9 _ 11 64 3 64 (by decide) (by decide) (by decide), aw_step k0 k9 _ 11 64 4 64 (by decide) (by decide) (by decide), aw_step k0 k9 _ 11 64 5 64 (by decide) (by decide) (by decide), aw_step k0 k9 _ 11 64 6 64 (by decide) (by decide) (by decide), aw_step k0 k9 _ 11 64 7 64 (by decide) (by decide) (by decide), aw_step k0 k9 _ 11 64 8 64 (by decide) (by decide) (by decide), aw_step k0 k9 _ 11 3 9 3 (by decide) (by decide) (by decide), aw_step k0 k9 _ 11 3 10 3 (by decide) (by decide) (by decide), aw_step k0 k9 _ 11 2 15 2 (by decide) (by decide) (by decide)]
    show ((wR (aws (sz s) rowsM (al s 1 17)) 1 (sz s) 0 (some n)).bind _) = _
    rw [wR_ok (show kd _ (sz s) = 1 from congrArg Prod.fst h.2.1), Option.bind_some]
    show (fR (sR (aws (sz s) rowsM (al s 1 17)) (sz s) 0 (some n)) 1 (sz s) 9).bind _ = _
    rw [hs1]
    obtain ⟨I1, J1⟩ := s1
    rw [fR_ok 9 k1, Option.bind_some, show jR J1 (sz s) 9 = some (sz s + 9) from r1 9 (by decide), fill_s (n := 3) (t1 8 _ rfl) (by decide)]
    simp only [Option.bind_some, asV_n]
    rw [fR_ok 10 k1, Option.bind_some, show jR J1 (sz s) 10 = some (sz s + 10) from r1 10 (by decide), fill_s (n := 3) (t1 9 _ rfl) (by decide)]
    rfl
  · refine ⟨by rw [← hs1]; exact h.1.1, by rw [← hs1]; exact h.1.2.1, fun x hx => (h.1.2.2 x hx).trans ?_⟩
    rw [← hs1]
    refine ⟨?_, rfl, ?_, rfl⟩
    · funext y
      show (if x = sz s + 10 ∧ y < 3 then _ else if x = sz s + 9 ∧ y < 3 then _ else _) = _
      rw [if_neg (by omega), if_neg (by omega)]
    · funext y
      exact if_neg (by omega)
  · refine ⟨k1, ?_, r1 1 (by decide), r1 2 (by decide), r1 3 (by decide), r1 4 (by decide), r1 5 (by decide), r1 6 (by decide), r1 7 (by decide), r1 8 (by decide), r1 9 (by decide), r1 10 (by decide), r1 15 (by decide), t1 0 _ rfl, t1 1 _ rfl, t1 2 _ rfl, t1 3 _ rfl, t1 4 _ rfl, t1 5 _ rfl, t1 6 _ rfl, t1 7 _ rfl, t1 8 _ rfl, t1 9 _ rfl, t1 10 _ rfl⟩
    show s1.2.2.1 (sz s) 0 = some n
    rw [← hs1]
    exact if_pos ⟨rfl, rfl⟩
  · intro x h1 h2
    funext y
    have e : s1.1 x = fun _ => 0 := by rw [← hs1]; exact h.2.2.2.2 x h1 h2
    show (if x = sz s + 10 ∧ y < 3 then _ else if x = sz s + 9 ∧ y < 3 then _ else s1.1 x y) = _
    rw [e]
    by_cases c : y < 3
    · by_cases d : x = sz s + 10
      · rw [if_pos ⟨d, c⟩, if_pos ⟨Or.inr d, c⟩]
      · by_cases f : x = sz s + 9
        · rw [if_neg (fun q => d q.1), if_pos ⟨f, c⟩, if_pos ⟨Or.inl f, c⟩]
        · rw [if_neg (fun q => d q.1), if_neg (fun q => f q.1), if_neg (fun q => q.1.elim f d)]
    · rw [if_neg (fun q => c q.2), if_neg (fun q => c q.2), if_neg (fun q => c q.2)]
theorem n_X4_12 (s : MH) : ∃ s', M_X4_init [mR (some (sz s)), mI 12] (al s 4 2) = some (none, s') ∧ Gw s s' 2 14 ∧ RouL s'.2 (sz s) 12 ∧ ∀ x, sz s ≤ x → x < sz s + 2 → s'.1 x = fun _ => 0 := by
  have h := new_aws s 4 2 [(11, 12, 0)]
  refine ⟨aws (sz s) [(11, 12, 0)] (al s 4 2), ?_, h.1, ⟨congrArg Prod.fst h.2.1, h.2.2.1 0, h.2.2.2.1 0 _ rfl, by decide⟩, fun x h1 h2 => h.2.2.2.2 x h1 h2⟩
  have k0 : kd (al s 4 2) (sz s) = 4 := al_kd s 4 2
  have k9 : sz s < sz (al s 4 2) := Nat.lt_succ_self _
  rw [E_X4_init, if_neg (by decide)]
  show ((nw (aws (sz s) [] (al s 4 2)) 11 12).bind fun s1 => (wR s1 4 (sz s) 0 (some (sz (aws (sz s) [] (al s 4 2))))).bind _) = _
  rw [aw_step k0 k9 _ 11 12 0 12 (by decide) (by decide) (by decide)]
  rfl
theorem n_X4_60 (s : MH) : ∃ s', M_X4_init [mR (some (sz s)), mI 60] (al s 4 2) = some (none, s') ∧ Gw s s' 2 62 ∧ RouL s'.2 (sz s) 60 ∧ ∀ x, sz s ≤ x → x < sz s + 2 → s'.1 x = fun _ => 0 := by
  have h := new_aws s 4 2 [(11, 60, 0)]
  refine ⟨aws (sz s) [(11, 60, 0)] (al s 4 2), ?_, h.1, ⟨congrArg Prod.fst h.2.1, h.2.2.1 0, h.2.2.2.1 0 _ rfl, by decide⟩, fun x h1 h2 => h.2.2.2.2 x h1 h2⟩
  have k0 : kd (al s 4 2) (sz s) = 4 := al_kd s 4 2
  have k9 : sz s < sz (al s 4 2) := Nat.lt_succ_self _
  rw [E_X4_init, if_neg (by decide)]
  show ((nw (aws (sz s) [] (al s 4 2)) 11 60).bind fun s1 => (wR s1 4 (sz s) 0 (some (sz (aws (sz s) [] (al s 4 2))))).bind _) = _
  rw [aw_step k0 k9 _ 11 60 0 60 (by decide) (by decide) (by decide)]
  rfl
theorem n_X7 (s : MH) : ∃ s', M_X7_init [mR (some (sz s))] (al s 7 9) = some (none, s') ∧ Gw s s' 6 98 ∧ WalL s'.2 (sz s) (sz s + 1) (sz s + 3) ∧ RouL s'.2 (sz s + 1) 12 ∧ BufL s'.2 (sz s + 3) ∧ ∀ x, sz s ≤ x → x < sz s + 6 → s'.1 x = fun _ => 0 := by
  obtain ⟨s1, e1, g1, l1, z1⟩ := n_X4_12 (al s 7 9)
  have q1 : sz (al s 7 9) = sz s + 1 := rfl
  rw [q1] at e1 l1 z1
  have k1 : s1.2.2.2.1 (sz s) = (7, 9) := (g1.2.2 (sz s) (Nat.lt_succ_self _)).2.2.2.trans (al_k s 7 9)
  have i1 : s1.1 (sz s) = fun _ => 0 := (g1.2.2 (sz s) (Nat.lt_succ_self _)).1.trans (al_0 s 7 9)
  have c1 : sz s1 = sz s + 3 := g1.1
  have hlt : sz s < sz s1 := by omega
  generalize hs2 : sR s1 (sz s) 0 (some (sz s + 1)) = s2
  have c2 : sz s2 = sz s + 3 := by rw [← hs2]; exact c1
  have k2 : s2.2.2.2.1 (sz s) = (7, 9) := by rw [← hs2]; exact k1
  have m2 : ∀ x, x ≠ sz s → Sm s1 s2 x := fun x hx => by rw [← hs2]; exact sR_sm s1 _ _ _ x hx
  have i2 : s2.1 = s1.1 := by rw [← hs2]
  have r2 : s2.2.2.1 (sz s) 0 = some (sz s + 1) := by rw [← hs2]; exact if_pos ⟨rfl, rfl⟩
  have hlt2 : sz s < sz s2 := by omega
  have w := aws_sz (sz s) [(11, 25, 1), (11, 25, 2), (11, 25, 3)] s2
  have a := aws_a (sz s) [(11, 25, 1), (11, 25, 2), (11, 25, 3)] s2 hlt2
  have nn := fun i q hq => aws_new (sz s) [(11, 25, 1), (11, 25, 2), (11, 25, 3)] s2 i q hlt2 hq
  have k0 : kd s2 (sz s) = 7 := congrArg Prod.fst k2
  have sm3 : ∀ x, x < sz s + 3 → x ≠ sz s → Sm s1 (aws (sz s) [(11, 25, 1), (11, 25, 2), (11, 25, 3)] s2) x := fun x h1 h2 => (m2 x h2).trans (aws_sm (sz s) _ s2 x (by omega) h2)
  refine ⟨aws (sz s) [(11, 25, 1), (11, 25, 2), (11, 25, 3)] s2, ?_, ⟨?_, ?_, fun x hx => ?_⟩, ?_, ?_, ?_, ?_⟩
  · rw [E_X7_init, if_pos (show kd (al (al s 7 9) 4 2) (sz s + 1) = 4 from al_kd (al s 7 9) 4 2)]
    show (M_X4_init [mR (some (sz s + 1)), mI 12] (al (al s 7 9) 4 2)).bind _ = _
    rw [e1]
    simp only [Option.bind_some, asV_n]
    rw [wR_ok (show kd s1 (sz s) = 7 from congrArg Prod.fst k1), Option.bind_some]
    rw [show sR s1 (sz s) 0 (some (sz (al s 7 9))) = s2 from hs2]
    show ((nw (aws (sz s) [] s2) 11 25).bind fun s1 => (wR s1 7 (sz s) 1 (some (sz (aws (sz s) [] s2)))).bind _) = _
    rw [aw_step k0 hlt2 _ 11 25 1 25 (by decide) (by decide) (by decide), aw_step k0 hlt2 _ 11 25 2 25 (by decide) (by decide) (by decide), aw_step k0 hlt2 _ 11 25 3 25 (by decide) (by decide) (by decide)]
    rfl
  · rw [w.1, c2]; rfl
  · rw [w.2]
    have : sl s2 = sl s1 := by rw [← hs2]
    rw [this, g1.2.1]
    show sl s + 9 + 14 + 75 = sl s + 98
    omega
  · exact ((al_sm s 7 9 x (Nat.ne_of_lt hx)).trans (g1.2.2 x (Nat.lt_succ_of_lt hx))).trans (sm3 x (by omega) (Nat.ne_of_lt hx))
  · refine ⟨congrArg Prod.fst (a.2.2.1.trans k2), (a.2.2.2 0).trans r2, (a.2.2.2 1).trans ?_, (a.2.2.2 2).trans ?_, (a.2.2.2 3).trans ?_⟩ <;> (rw [c2]; rfl)
  · have b : Bl s1.2 (aws (sz s) [(11, 25, 1), (11, 25, 2), (11, 25, 3)] s2).2 (sz s + 3) ∨ True := Or.inr trivial
    unfold RouL
    have u1 := sm3 (sz s + 1) (by omega) (by omega)
    have u2 := sm3 (sz s + 1 + 1) (by omega) (by omega)
    exact ⟨(congrArg Prod.fst u1.2.2.2).trans l1.k, (congrFun u1.2.2.1 0).trans l1.r1, u2.2.2.2.trans l1.s1, l1.b⟩
  · have u := fun i q hq => (nn i q hq).2.1
    rw [c2] at u
    exact ⟨u 0 _ rfl, u 1 _ rfl, u 2 _ rfl⟩
  · intro x h1 h2
    by_cases e : x = sz s
    · subst e
      rw [a.1, i2, i1]
    · by_cases f : x < sz s + 3
      · rw [(sm3 x f e).1]
        exact z1 x (by omega) (by omega)
      · have := fun i q hq => (nn i q hq).1
        rw [c2] at this
        by_cases f0 : x = sz s + 3
        · rw [f0]; exact this 0 _ rfl
        · by_cases f1 : x = sz s + 4
          · rw [f1]; exact this 1 _ rfl
          · rw [show x = sz s + 5 by omega]; exact this 2 _ rfl

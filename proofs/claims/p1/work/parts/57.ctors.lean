/-! New objects: nodes, a memory, a route, a walker, a world. -/
def Gw (s s' : MH) (n m : Nat) : Prop := sz s' = sz s + n ∧ sl s' = sl s + m ∧ ∀ x, x < sz s → Sm s s' x
theorem Gw.trans {s s' s'' : MH} {n m n' m' : Nat} (h : Gw s s' n m) (g : Gw s' s'' n' m') : Gw s s'' (n + n') (m + m') :=
  ⟨by rw [g.1, h.1]; omega, by rw [g.2.1, h.2.1]; omega, fun x hx => (h.2.2 x hx).trans (g.2.2 x (by rw [h.1]; omega))⟩
/-- below b, references and shapes are as they were -/
def Bl (J J' : MJ) (b : Nat) : Prop := ∀ x, x < b → jR J' x = jR J x ∧ jS J' x = jS J x
theorem Gw.bl {s s' : MH} {n m : Nat} (h : Gw s s' n m) : Bl s.2 s'.2 (sz s) := fun x hx => ⟨(h.2.2 x hx).2.2.1, (h.2.2 x hx).2.2.2⟩
theorem Bl.trans {J J' J'' : MJ} {b b' : Nat} (h : Bl J J' b) (g : Bl J' J'' b') (e : b ≤ b') : Bl J J'' b := fun x hx => ⟨(g x (by omega)).1.trans (h x hx).1, (g x (by omega)).2.trans (h x hx).2⟩
theorem Bl.mono {J J' : MJ} {b b' : Nat} (h : Bl J J' b) (e : b' ≤ b) : Bl J J' b' := fun x hx => h x (by omega)
theorem NodL.up {J J' : MJ} {n b : Nat} (h : NodL J n) (g : Bl J J' b) (e : n + 6 ≤ b) : NodL J' n := by
  unfold NodL
  rw [(g n (by omega)).1, (g n (by omega)).2, (g (n + 1) (by omega)).2, (g (n + 2) (by omega)).2, (g (n + 3) (by omega)).2, (g (n + 4) (by omega)).2, (g (n + 5) (by omega)).2]
  exact h
theorem MemL.up {J J' : MJ} {m n b : Nat} (h : MemL J m n) (g : Bl J J' b) (e : m + 12 ≤ b) : MemL J' m n := by
  unfold MemL
  rw [(g m (by omega)).1, (g m (by omega)).2, (g (m + 1) (by omega)).2, (g (m + 2) (by omega)).2, (g (m + 3) (by omega)).2, (g (m + 4) (by omega)).2, (g (m + 5) (by omega)).2, (g (m + 6) (by omega)).2, (g (m + 7) (by omega)).2, (g (m + 8) (by omega)).2, (g (m + 9) (by omega)).2, (g (m + 10) (by omega)).2, (g (m + 11) (by omega)).2]
  exact h
theorem RouL.up {J J' : MJ} {r L b : Nat} (h : RouL J r L) (g : Bl J J' b) (e : r + 2 ≤ b) : RouL J' r L := by
  unfold RouL
  rw [(g r (by omega)).1, (g r (by omega)).2, (g (r + 1) (by omega)).2]
  exact h
theorem TapL.up {J J' : MJ} {t b : Nat} (h : TapL J t) (g : Bl J J' b) (e : t + 2 ≤ b) : TapL J' t := by
  unfold TapL
  rw [(g t (by omega)).1, (g t (by omega)).2, (g (t + 1) (by omega)).2]
  exact h
theorem WalL.up {J J' : MJ} {w r c b : Nat} (h : WalL J w r c) (g : Bl J J' b) (e : w + 1 ≤ b) : WalL J' w r c := by
  unfold WalL
  rw [(g w (by omega)).1, (g w (by omega)).2]
  exact h
theorem BufL.up {J J' : MJ} {c b : Nat} (h : BufL J c) (g : Bl J J' b) (e : c + 3 ≤ b) : BufL J' c := by
  unfold BufL
  rw [(g c (by omega)).2, (g (c + 1) (by omega)).2, (g (c + 2) (by omega)).2]
  exact h
theorem WorL.up {J J' : MJ} {o n m c z b : Nat} (h : WorL J o n m c z) (g : Bl J J' b) (e : o + 1 ≤ b) : WorL J' o n m c z := by
  unfold WorL
  rw [(g o (by omega)).1, (g o (by omega)).2]
  exact h
theorem HanL.up {J J' : MJ} {c b : Nat} (h : HanL J c) (g : Bl J J' b) (e : c + 1 ≤ b) : HanL J' c := by
  unfold HanL
  rw [(g c (by omega)).2]
  exact h
theorem RdrL.up {J J' : MJ} {r n b : Nat} (h : RdrL J r n) (g : Bl J J' b) (e : r + 1 ≤ b) : RdrL J' r n := by
  unfold RdrL
  rw [(g r (by omega)).1, (g r (by omega)).2]
  exact h
theorem WksL.up {J J' : MJ} {z w b : Nat} (h : WksL J z w) (g : Bl J J' b) (e : z + 1 ≤ b) (e2 : w + 24 ≤ b) : WksL J' z w := by
  refine ⟨?_, fun k hk => ⟨?_, (h.2 k hk).2.1.up g (by omega), (h.2 k hk).2.2.1.up g (by omega), (h.2 k hk).2.2.2.up g (by omega)⟩⟩
  · rw [(g z (by omega)).2]; exact h.1
  · rw [(g z (by omega)).1]; exact (h.2 k hk).1
theorem al_gw (s : MH) (d n : Nat) : Gw s (al s d n) 1 n := ⟨rfl, rfl, fun x hx => al_sm s d n x (Nat.ne_of_lt hx)⟩
theorem al_k (s : MH) (d n : Nat) : (al s d n).2.2.2.1 (sz s) = (d, n) := if_pos rfl
theorem al_kd (s : MH) (d n : Nat) : kd (al s d n) (sz s) = d := by rw [show kd (al s d n) (sz s) = ((al s d n).2.2.2.1 (sz s)).1 from rfl, al_k]
theorem al_0 (s : MH) (d n : Nat) : (al s d n).1 (sz s) = fun _ => 0 := by funext y; exact if_pos rfl
/-- rows laid into a new object -/
theorem new_aws (s : MH) (d n : Nat) (l : List (Nat × Nat × Nat)) : Gw s (aws (sz s) l (al s d n)) (1 + l.length) (n + slo l) ∧ (aws (sz s) l (al s d n)).2.2.2.1 (sz s) = (d, n) ∧ (∀ k, (aws (sz s) l (al s d n)).2.2.1 (sz s) k = rk l (sz s + 1) k) ∧ (∀ i q, l[i]? = some q → (aws (sz s) l (al s d n)).2.2.2.1 (sz s + 1 + i) = (q.1, q.2.1)) ∧ ∀ x, sz s ≤ x → x < sz s + (1 + l.length) → (aws (sz s) l (al s d n)).1 x = fun _ => 0 := by
  have h0 : sz s < sz (al s d n) := Nat.lt_succ_self _
  have h1 := aws_sz (sz s) l (al s d n)
  have h2 := aws_a (sz s) l (al s d n) h0
  refine ⟨⟨by rw [h1.1]; show sz s + 1 + _ = _; omega, by rw [h1.2]; show sl s + n + _ = _; omega, fun x hx => (al_sm s d n x (Nat.ne_of_lt hx)).trans (aws_sm (sz s) l (al s d n) x (Nat.lt_succ_of_lt hx) (Nat.ne_of_lt hx))⟩, h2.2.2.1.trans (al_k s d n), fun k => ?_, fun i q hq => (aws_new (sz s) l (al s d n) i q h0 hq).2.1, fun x hx hy => ?_⟩
  · rw [h2.2.2.2 k]
    have e : (al s d n).2.2.1 (sz s) k = none := if_pos rfl
    rw [e]
    show (match rk l (sz s + 1) k with | some x => some x | none => none) = _
    cases rk l (sz s + 1) k <;> rfl
  · by_cases e : x = sz s
    · subst e
      exact h2.1.trans (al_0 s d n)
    · have hi : x - (sz s + 1) < l.length := by omega
      have := (aws_new (sz s) l (al s d n) (x - (sz s + 1)) _ h0 (List.getElem?_eq_getElem hi)).1
      rw [show sz (al s d n) + (x - (sz s + 1)) = x by show sz s + 1 + _ = x; omega] at this
      exact this
theorem aws_app (a : Nat) : ∀ (l : List (Nat × Nat × Nat)) (q : Nat × Nat × Nat) (s : MH), aws a (l ++ [q]) s = sR (al (aws a l s) q.1 q.2.1) a q.2.2 (some (sz (aws a l s)))
  | [], q, s => rfl
  | p :: l, q, s => aws_app a l q _
theorem aw_step {a c : Nat} {s0 : MH} (h : kd s0 a = c) (ha : a < sz s0) (l : List (Nat × Nat × Nat)) (d n k : Nat) (m : Int32) (h1 : ¬ m < 0) (h2 : m.toNatClampNeg = n) (h3 : n ≤ 100000) (f : MH → Option MO) : ((nw (aws a l s0) d m).bind fun s1 => (wR s1 c a k (some (sz (aws a l s0)))).bind f) = f (aws a (l ++ [(d, n, k)]) s0) := by
  rw [nw_ok _ d n m h1 h2 h3, Option.bind_some, wR_ok, Option.bind_some, aws_app]
  rw [show kd (al (aws a l s0) d n) a = kd (aws a l s0) a from congrArg Prod.fst (al_sm _ d n a (by rw [(aws_sz a l s0).1]; omega)).2.2.2]
  exact (congrArg Prod.fst (aws_a a l s0 ha).2.2.1).trans h
def rowsN : List (Nat × Nat × Nat) := [(11, 60, 0), (11, 60, 1), (11, 60, 2), (11, 60, 3), (11, 3, 4)]
theorem n_X2 (s : MH) : ∃ s', M_X2_init [mR (some (sz s))] (al s 2 7) = some (none, s') ∧ Gw s s' 6 250 ∧ NodL s'.2 (sz s) ∧ ∀ x, sz s ≤ x → x < sz s + 6 → s'.1 x = fun _ => 0 := by
  have h := new_aws s 2 7 rowsN
  refine ⟨aws (sz s) rowsN (al s 2 7), ?_, h.1, ?_, fun x h1 h2 => h.2.2.2.2 x h1 h2⟩
  · have k0 : kd (al s 2 7) (sz s) = 2 := al_kd s 2 7
    have k9 : sz s < sz (al s 2 7) := Nat.lt_succ_self _
    rw [E_X2_init]
    show ((nw (aws (sz s) [] (al s 2 7)) 11 60).bind fun s1 => (wR s1 2 (sz s) 0 (some (sz (aws (sz s) [] (al s 2 7))))).bind _) = _
    rw [aw_step k0 k9 _ 11 60 0 60 (by decide) (by decide) (by decide), aw_step k0 k9 _ 11 60 1 60 (by decide) (by decide) (by decide), aw_step k0 k9 _ 11 60 2 60 (by decide) (by decide) (by decide), aw_step k0 k9 _ 11 60 3 60 (by decide) (by decide) (by decide), aw_step k0 k9 _ 11 3 4 3 (by decide) (by decide) (by decide)]
    rfl
  · have r := h.2.2.1
    have t := h.2.2.2.1
    exact ⟨congrArg Prod.fst h.2.1, r 0, r 1, r 2, r 3, r 4, t 0 _ rfl, t 1 _ rfl, t 2 _ rfl, t 3 _ rfl, t 4 _ rfl⟩

section
/-! Constructors: rows made one behind another, each laid into a field of one object. -/
theorem nw_ok (s : MH) (d n : Nat) (m : Int32) (h1 : ¬ m < 0) (h2 : m.toNatClampNeg = n) (h3 : n ≤ 100000) : nw s d m = some (al s d n) := by
  subst h2
  exact if_pos ⟨h1, h3⟩
theorem wR_ok {s : MH} {c a k : Nat} {v : Option Nat} (h : kd s a = c) : wR s c a k v = some (sR s a k v) := if_pos h
def aws (a : Nat) : List (Nat × Nat × Nat) → MH → MH
  | [], s => s
  | q :: l, s => aws a l (sR (al s q.1 q.2.1) a q.2.2 (some (sz s)))
def rk : List (Nat × Nat × Nat) → Nat → Nat → Option Nat
  | [], _, _ => none
  | q :: l, c, k => match rk l (c + 1) k with
    | some x => some x
    | none => if k = q.2.2 then some c else none
def slo : List (Nat × Nat × Nat) → Nat
  | [] => 0
  | q :: l => q.2.1 + slo l
/-- x is as it was -/
def Sm (s s' : MH) (x : Nat) : Prop := s'.1 x = s.1 x ∧ s'.2.1 x = s.2.1 x ∧ s'.2.2.1 x = s.2.2.1 x ∧ s'.2.2.2.1 x = s.2.2.2.1 x
theorem Sm.refl (s : MH) (x : Nat) : Sm s s x := ⟨rfl, rfl, rfl, rfl⟩
theorem Sm.trans {s s' s'' : MH} {x : Nat} (h : Sm s s' x) (g : Sm s' s'' x) : Sm s s'' x := ⟨g.1.trans h.1, g.2.1.trans h.2.1, g.2.2.1.trans h.2.2.1, g.2.2.2.trans h.2.2.2⟩
theorem al_sm (s : MH) (d n x : Nat) (h : x ≠ sz s) : Sm s (al s d n) x := by
  refine ⟨?_, ?_, ?_, ?_⟩
  · funext y; exact if_neg h
  · funext y; exact if_neg h
  · funext y; exact if_neg h
  · exact if_neg h
theorem sR_sm (s : MH) (a k : Nat) (v : Option Nat) (x : Nat) (h : x ≠ a) : Sm s (sR s a k v) x := by
  refine ⟨rfl, rfl, ?_, rfl⟩
  funext y
  exact if_neg (fun q => h q.1)
theorem aws_sz (a : Nat) : ∀ (l : List (Nat × Nat × Nat)) (s : MH), sz (aws a l s) = sz s + l.length ∧ sl (aws a l s) = sl s + slo l
  | [], s => ⟨rfl, rfl⟩
  | q :: l, s => by
    have h := aws_sz a l (sR (al s q.1 q.2.1) a q.2.2 (some (sz s)))
    constructor
    · show sz (aws a l (sR (al s q.1 q.2.1) a q.2.2 (some (sz s)))) = _
      rw [h.1]
      show sz s + 1 + l.length = sz s + (l.length + 1)
      omega
    · show sl (aws a l (sR (al s q.1 q.2.1) a q.2.2 (some (sz s)))) = _
      rw [h.2]
      show sl s + q.2.1 + slo l = sl s + (q.2.1 + slo l)
      omega
theorem aws_sm (a : Nat) : ∀ (l : List (Nat × Nat × Nat)) (s : MH) (x : Nat), x < sz s → x ≠ a → Sm s (aws a l s) x
  | [], s, x, _, _ => Sm.refl s x
  | q :: l, s, x, h, g => by
    have h1 := aws_sm a l (sR (al s q.1 q.2.1) a q.2.2 (some (sz s))) x (Nat.lt_succ_of_lt h) g
    exact ((al_sm s q.1 q.2.1 x (Nat.ne_of_lt h)).trans (sR_sm _ _ _ _ x g)).trans h1
theorem aws_a (a : Nat) : ∀ (l : List (Nat × Nat × Nat)) (s : MH), a < sz s → (aws a l s).1 a = s.1 a ∧ (aws a l s).2.1 a = s.2.1 a ∧ (aws a l s).2.2.2.1 a = s.2.2.2.1 a ∧ ∀ k, (aws a l s).2.2.1 a k = match rk l (sz s) k with
    | some x => some x
    | none => s.2.2.1 a k
  | [], s, _ => ⟨rfl, rfl, rfl, fun _ => rfl⟩
  | q :: l, s, h => by
    have h1 := aws_a a l (sR (al s q.1 q.2.1) a q.2.2 (some (sz s))) (Nat.lt_succ_of_lt h)
    have h2 := al_sm s q.1 q.2.1 a (Nat.ne_of_lt h)
    refine ⟨h1.1.trans h2.1, h1.2.1.trans h2.2.1, h1.2.2.1.trans h2.2.2.2, fun k => ?_⟩
    rw [show (aws a (q :: l) s) = aws a l (sR (al s q.1 q.2.1) a q.2.2 (some (sz s))) from rfl, h1.2.2.2 k]
    show (match rk l (sz s + 1) k with | some x => some x | none => (sR (al s q.1 q.2.1) a q.2.2 (some (sz s))).2.2.1 a k) = match (match rk l (sz s + 1) k with | some x => some x | none => if k = q.2.2 then some (sz s) else none) with | some x => some x | none => s.2.2.1 a k
    cases rk l (sz s + 1) k with
    | some x => rfl
    | none =>
      show (if a = a ∧ k = q.2.2 then some (sz s) else (al s q.1 q.2.1).2.2.1 a k) = _
      by_cases e : k = q.2.2
      · rw [if_pos ⟨rfl, e⟩, if_pos e]
      · rw [if_neg (fun z => e z.2), if_neg e, h2.2.2.1]
theorem aws_new (a : Nat) : ∀ (l : List (Nat × Nat × Nat)) (s : MH) (i : Nat) (q : Nat × Nat × Nat), a < sz s → l[i]? = some q → (aws a l s).1 (sz s + i) = (fun _ => 0) ∧ (aws a l s).2.2.2.1 (sz s + i) = (q.1, q.2.1) ∧ (aws a l s).2.2.1 (sz s + i) = (fun _ => none)
  | [], s, i, q, _, h => by cases h
  | p :: l, s, 0, q, ha, h => by
    cases h
    have h1 := aws_sm a l (sR (al s p.1 p.2.1) a p.2.2 (some (sz s))) (sz s) (Nat.lt_succ_self _) (Nat.ne_of_gt ha)
    have e : ∀ {α β : Type} (u v : α), (if sz s = sz s then u else v) = u := fun u v => if_pos rfl
    refine ⟨h1.1.trans ?_, h1.2.2.2.trans (if_pos rfl), h1.2.2.1.trans ?_⟩
    · funext y; exact if_pos rfl
    · funext y
      show (if sz s = a ∧ y = p.2.2 then _ else (if sz s = sz s then none else _)) = _
      rw [if_neg (fun z => absurd z.1 (Nat.ne_of_gt ha)), if_pos rfl]
  | p :: l, s, i + 1, q, ha, h => by
    have h1 := aws_new a l (sR (al s p.1 p.2.1) a p.2.2 (some (sz s))) i q (Nat.lt_succ_of_lt ha) h
    have e : sz s + (i + 1) = sz (sR (al s p.1 p.2.1) a p.2.2 (some (sz s))) + i := by
      show sz s + (i + 1) = sz s + 1 + i
      omega
    rw [e]
    exact h1
end
section
/-! New objects: nodes, a memory, a route, a walker, a world. -/
def Gw (s s' : MH) (n m : Nat) : Prop := sz s' = sz s + n ∧ sl s' = sl s + m ∧ ∀ x, x < sz s → Sm s s' x
theorem Gw.trans {s s' s'' : MH} {n m n' m' : Nat} (h : Gw s s' n m) (g : Gw s' s'' n' m') : Gw s s'' (n + n') (m + m') :=
  ⟨by rw [g.1, h.1]; omega, by rw [g.2.1, h.2.1]; omega, fun x hx => (h.2.2 x hx).trans (g.2.2 x (by rw [h.1]; omega))⟩
/-- below b, references and shapes are as they were -/
def Bl (J J' : MJ) (b : Nat) : Prop := ∀ x, x < b → jR J' x = jR J x ∧ jS J' x = jS J x
theorem Gw.bl {s s' : MH} {n m : Nat} (h : Gw s s' n m) : Bl s.2 s'.2 (sz s) := fun x hx => ⟨(h.2.2 x hx).2.2.1, (h.2.2 x hx).2.2.2⟩
theorem Bl.trans {J J' J'' : MJ} {b b' : Nat} (h : Bl J J' b) (g : Bl J' J'' b') (e : b ≤ b') : Bl J J'' b := fun x hx => ⟨(g x (by omega)).1.trans (h x hx).1, (g x (by omega)).2.trans (h x hx).2⟩
theorem Bl.mono {J J' : MJ} {b b' : Nat} (h : Bl J J' b) (e : b' ≤ b) : Bl J J' b' := fun x hx => h x (by omega)
theorem NodL.up {J J' : MJ} {n b : Nat} (h : NodL J n) (g : Bl J J' b) (e : n + 6 ≤ b) : NodL J' n := by
  unfold NodL
  rw [(g n (by omega)).1, (g n (by omega)).2, (g (n + 1) (by omega)).2, (g (n + 2) (by omega)).2, (g (n + 3) (by omega)).2, (g (n + 4) (by omega)).2, (g (n + 5) (by omega)).2]
  exact h
theorem MemL.up {J J' : MJ} {m n b : Nat} (h : MemL J m n) (g : Bl J J' b) (e : m + 12 ≤ b) : MemL J' m n := by
  unfold MemL
  rw [(g m (by omega)).1, (g m (by omega)).2, (g (m + 1) (by omega)).2, (g (m + 2) (by omega)).2, (g (m + 3) (by omega)).2, (g (m + 4) (by omega)).2, (g (m + 5) (by omega)).2, (g (m + 6) (by omega)).2, (g (m + 7) (by omega)).2, (g (m + 8) (by omega)).2, (g (m + 9) (by omega)).2, (g (m + 10) (by omega)).2, (g (m + 11) (by omega)).2]
  exact h
theorem RouL.up {J J' : MJ} {r L b : Nat} (h : RouL J r L) (g : Bl J J' b) (e : r + 2 ≤ b) : RouL J' r L := by
  unfold RouL
  rw [(g r (by omega)).1, (g r (by omega)).2, (g (r + 1) (by omega)).2]
  exact h
theorem TapL.up {J J' : MJ} {t b : Nat} (h : TapL J t) (g : Bl J J' b) (e : t + 2 ≤ b) : TapL J' t := by
  unfold TapL
  rw [(g t (by omega)).1, (g t (by omega)).2, (g (t + 1) (by omega)).2]
  exact h
theorem WalL.up {J J' : MJ} {w r c b : Nat} (h : WalL J w r c) (g : Bl J J' b) (e : w + 1 ≤ b) : WalL J' w r c := by
  unfold WalL
  rw [(g w (by omega)).1, (g w (by omega)).2]
  exact h
theorem BufL.up {J J' : MJ} {c b : Nat} (h : BufL J c) (g : Bl J J' b) (e : c + 3 ≤ b) : BufL J' c := by
  unfold BufL
  rw [(g c (by omega)).2, (g (c + 1) (by omega)).2, (g (c + 2) (by omega)).2]
  exact h
theorem WorL.up {J J' : MJ} {o n m c z b : Nat} (h : WorL J o n m c z) (g : Bl J J' b) (e : o + 1 ≤ b) : WorL J' o n m c z := by
  unfold WorL
  rw [(g o (by omega)).1, (g o (by omega)).2]
  exact h
theorem HanL.up {J J' : MJ} {c b : Nat} (h : HanL J c) (g : Bl J J' b) (e : c + 1 ≤ b) : HanL J' c := by
  unfold HanL
  rw [(g c (by omega)).2]
  exact h
theorem RdrL.up {J J' : MJ} {r n b : Nat} (h : RdrL J r n) (g : Bl J J' b) (e : r + 1 ≤ b) : RdrL J' r n := by
  unfold RdrL
  rw [(g r (by omega)).1, (g r (by omega)).2]
  exact h
theorem WksL.up {J J' : MJ} {z w b : Nat} (h : WksL J z w) (g : Bl J J' b) (e : z + 1 ≤ b) (e2 : w + 24 ≤ b) : WksL J' z w := by
  refine ⟨?_, fun k hk => ⟨?_, (h.2 k hk).2.1.up g (by omega), (h.2 k hk).2.2.1.up g (by omega), (h.2 k hk).2.2.2.up g (by omega)⟩⟩
  · rw [(g z (by omega)).2]; exact h.1
  · rw [(g z (by omega)).1]; exact (h.2 k hk).1
theorem al_gw (s : MH) (d n : Nat) : Gw s (al s d n) 1 n := ⟨rfl, rfl, fun x hx => al_sm s d n x (Nat.ne_of_lt hx)⟩
theorem al_k (s : MH) (d n : Nat) : (al s d n).2.2.2.1 (sz s) = (d, n) := if_pos rfl
theorem al_kd (s : MH) (d n : Nat) : kd (al s d n) (sz s) = d := by rw [show kd (al s d n) (sz s) = ((al s d n).2.2.2.1 (sz s)).1 from rfl, al_k]
theorem al_0 (s : MH) (d n : Nat) : (al s d n).1 (sz s) = fun _ => 0 := by funext y; exact if_pos rfl
/-- rows laid into a new object -/
theorem new_aws (s : MH) (d n : Nat) (l : List (Nat × Nat × Nat)) : Gw s (aws (sz s) l (al s d n)) (1 + l.length) (n + slo l) ∧ (aws (sz s) l (al s d n)).2.2.2.1 (sz s) = (d, n) ∧ (∀ k, (aws (sz s) l (al s d n)).2.2.1 (sz s) k = rk l (sz s + 1) k) ∧ (∀ i q, l[i]? = some q → (aws (sz s) l (al s d n)).2.2.2.1 (sz s + 1 + i) = (q.1, q.2.1)) ∧ ∀ x, sz s ≤ x → x < sz s + (1 + l.length) → (aws (sz s) l (al s d n)).1 x = fun _ => 0 := by
  have h0 : sz s < sz (al s d n) := Nat.lt_succ_self _
  have h1 := aws_sz (sz s) l (al s d n)
  have h2 := aws_a (sz s) l (al s d n) h0
  refine ⟨⟨by rw [h1.1]; show sz s + 1 + _ = _; omega, by rw [h1.2]; show sl s + n + _ = _; omega, fun x hx => (al_sm s d n x (Nat.ne_of_lt hx)).trans (aws_sm (sz s) l (al s d n) x (Nat.lt_succ_of_lt hx) (Nat.ne_of_lt hx))⟩, h2.2.2.1.trans (al_k s d n), fun k => ?_, fun i q hq => (aws_new (sz s) l (al s d n) i q h0 hq).2.1, fun x hx hy => ?_⟩
  · rw [h2.2.2.2 k]
    have e : (al s d n).2.2.1 (sz s) k = none := if_pos rfl
    rw [e]
    show (match rk l (sz s + 1) k with | some x => some x | none => none) = _
    cases rk l (sz s + 1) k <;> rfl
  · by_cases e : x = sz s
    · subst e
      exact h2.1.trans (al_0 s d n)
    · have hi : x - (sz s + 1) < l.length := by omega
      have := (aws_new (sz s) l (al s d n) (x - (sz s + 1)) _ h0 (List.getElem?_eq_getElem hi)).1
      rw [show sz (al s d n) + (x - (sz s + 1)) = x by show sz s + 1 + _ = x; omega] at this
      exact this
theorem aws_app (a : Nat) : ∀ (l : List (Nat × Nat × Nat)) (q : Nat × Nat × Nat) (s : MH), aws a (l ++ [q]) s = sR (al (aws a l s) q.1 q.2.1) a q.2.2 (some (sz (aws a l s)))
  | [], q, s => rfl
  | p :: l, q, s => aws_app a l q _
theorem aw_step {a c : Nat} {s0 : MH} (h : kd s0 a = c) (ha : a < sz s0) (l : List (Nat × Nat × Nat)) (d n k : Nat) (m : Int32) (h1 : ¬ m < 0) (h2 : m.toNatClampNeg = n) (h3 : n ≤ 100000) (f : MH → Option MO) : ((nw (aws a l s0) d m).bind fun s1 => (wR s1 c a k (some (sz (aws a l s0)))).bind f) = f (aws a (l ++ [(d, n, k)]) s0) := by
  rw [nw_ok _ d n m h1 h2 h3, Option.bind_some, wR_ok, Option.bind_some, aws_app]
  rw [show kd (al (aws a l s0) d n) a = kd (aws a l s0) a from congrArg Prod.fst (al_sm _ d n a (by rw [(aws_sz a l s0).1]; omega)).2.2.2]
  exact (congrArg Prod.fst (aws_a a l s0 ha).2.2.1).trans h
def rowsN : List (Nat × Nat × Nat) := [(11, 60, 0), (11, 60, 1), (11, 60, 2), (11, 60, 3), (11, 3, 4)]
theorem n_X2 (s : MH) : ∃ s', M_X2_init [mR (some (sz s))] (al s 2 7) = some (none, s') ∧ Gw s s' 6 250 ∧ NodL s'.2 (sz s) ∧ ∀ x, sz s ≤ x → x < sz s + 6 → s'.1 x = fun _ => 0 := by
  have h := new_aws s 2 7 rowsN
  refine ⟨aws (sz s) rowsN (al s 2 7), ?_, h.1, ?_, fun x h1 h2 => h.2.2.2.2 x h1 h2⟩
  · have k0 : kd (al s 2 7) (sz s) = 2 := al_kd s 2 7
    have k9 : sz s < sz (al s 2 7) := Nat.lt_succ_self _
    rw [E_X2_init]
    show ((nw (aws (sz s) [] (al s 2 7)) 11 60).bind fun s1 => (wR s1 2 (sz s) 0 (some (sz (aws (sz s) [] (al s 2 7))))).bind _) = _
    rw [aw_step k0 k9 _ 11 60 0 60 (by decide) (by decide) (by decide), aw_step k0 k9 _ 11 60 1 60 (by decide) (by decide) (by decide), aw_step k0 k9 _ 11 60 2 60 (by decide) (by decide) (by decide), aw_step k0 k9 _ 11 60 3 60 (by decide) (by decide) (by decide), aw_step k0 k9 _ 11 3 4 3 (by decide) (by decide) (by decide)]
    rfl
  · have r := h.2.2.1
    have t := h.2.2.2.1
    exact ⟨congrArg Prod.fst h.2.1, r 0, r 1, r 2, r 3, r 4, t 0 _ rfl, t 1 _ rfl, t 2 _ rfl, t 3 _ rfl, t 4 _ rfl⟩
end
section
/-! New objects, on. Written by gen/ctors.py. -/
def rowsM : List (Nat × Nat × Nat) := [(11, 64, 1), (11, 64, 2), (11, 64, 3), (11, 64, 4), (11, 64, 5), (11, 64, 6), (11, 64, 7), (11, 64, 8), (11, 3, 9), (11, 3, 10), (11, 2, 15)]
theorem n_X1 (s : MH) (n : Nat) : ∃ s', M_X1_init [mR (some (sz s)), mR (some n)] (al s 1 17) = some (none, s') ∧ Gw s s' 12 537 ∧ MemL s'.2 (sz s) n ∧ ∀ x, sz s ≤ x → x < sz s + 12 → s'.1 x = fun y => if (x = sz s + 9 ∨ x = sz s + 10) ∧ y < 3 then -1 else 0 := by
  have h := new_aws s 1 17 rowsM
  have r := h.2.2.1
  have t := h.2.2.2.1
  generalize hs1 : sR (aws (sz s) rowsM (al s 1 17)) (sz s) 0 (some n) = s1
  have k1 : kd s1 (sz s) = 1 := by rw [← hs1]; exact congrArg Prod.fst h.2.1
  have r1 : ∀ k, k ≠ 0 → s1.2.2.1 (sz s) k = rk rowsM (sz s + 1) k := fun k hk => by
    rw [← hs1]
    exact (if_neg (fun q => hk q.2)).trans (r k)
  have t1 : ∀ i q, rowsM[i]? = some q → s1.2.2.2.1 (sz s + 1 + i) = (q.1, q.2.1) := fun i q hq => by
    rw [← hs1]
    exact t i q hq
  refine ⟨(fun x y => if x = sz s + 10 ∧ y < 3 then -1 else if x = sz s + 9 ∧ y < 3 then -1 else s1.1 x y, s1.2), ?_, ?_, ?_, ?_⟩
  · have k0 : kd (al s 1 17) (sz s) = 1 := al_kd s 1 17
    have k9 : sz s < sz (al s 1 17) := Nat.lt_succ_self _
    rw [E_X1_init]
    show ((nw (aws (sz s) [] (al s 1 17)) 11 64).bind fun s1 => (wR s1 1 (sz s) 1 (some (sz (aws (sz s) [] (al s 1 17))))).bind _) = _
    rw [aw_step k0 k9 _ 11 64 1 64 (by decide) (by decide) (by decide), aw_step k0 k9 _ 11 64 2 64 (by decide) (by decide) (by decide), aw_step k0 k9 _ 11 64 3 64 (by decide) (by decide) (by decide), aw_step k0 k9 _ 11 64 4 64 (by decide) (by decide) (by decide), aw_step k0 k9 _ 11 64 5 64 (by decide) (by decide) (by decide), aw_step k0 k9 _ 11 64 6 64 (by decide) (by decide) (by decide), aw_step k0 k9 _ 11 64 7 64 (by decide) (by decide) (by decide), aw_step k0 k9 _ 11 64 8 64 (by decide) (by decide) (by decide), aw_step k0 k9 _ 11 3 9 3 (by decide) (by decide) (by decide), aw_step k0 k9 _ 11 3 10 3 (by decide) (by decide) (by decide), aw_step k0 k9 _ 11 2 15 2 (by decide) (by decide) (by decide)]
    show ((wR (aws (sz s) rowsM (al s 1 17)) 1 (sz s) 0 (some n)).bind _) = _
    rw [wR_ok (show kd _ (sz s) = 1 from congrArg Prod.fst h.2.1), Option.bind_some]
    show (fR (sR (aws (sz s) rowsM (al s 1 17)) (sz s) 0 (some n)) 1 (sz s) 9).bind _ = _
    rw [hs1]
    obtain ⟨I1, J1⟩ := s1
    rw [fR_ok 9 k1, Option.bind_some, show jR J1 (sz s) 9 = some (sz s + 9) from r1 9 (by decide), fill_s (n := 3) (t1 8 _ rfl) (by decide)]
    simp only [Option.bind_some, asV_n]
    rw [fR_ok 10 k1, Option.bind_some, show jR J1 (sz s) 10 = some (sz s + 10) from r1 10 (by decide), fill_s (n := 3) (t1 9 _ rfl) (by decide)]
    rfl
  · refine ⟨by rw [← hs1]; exact h.1.1, by rw [← hs1]; exact h.1.2.1, fun x hx => (h.1.2.2 x hx).trans ?_⟩
    rw [← hs1]
    refine ⟨?_, rfl, ?_, rfl⟩
    · funext y
      show (if x = sz s + 10 ∧ y < 3 then _ else if x = sz s + 9 ∧ y < 3 then _ else _) = _
      rw [if_neg (by omega), if_neg (by omega)]
    · funext y
      exact if_neg (by omega)
  · refine ⟨k1, ?_, r1 1 (by decide), r1 2 (by decide), r1 3 (by decide), r1 4 (by decide), r1 5 (by decide), r1 6 (by decide), r1 7 (by decide), r1 8 (by decide), r1 9 (by decide), r1 10 (by decide), r1 15 (by decide), t1 0 _ rfl, t1 1 _ rfl, t1 2 _ rfl, t1 3 _ rfl, t1 4 _ rfl, t1 5 _ rfl, t1 6 _ rfl, t1 7 _ rfl, t1 8 _ rfl, t1 9 _ rfl, t1 10 _ rfl⟩
    show s1.2.2.1 (sz s) 0 = some n
    rw [← hs1]
    exact if_pos ⟨rfl, rfl⟩
  · intro x h1 h2
    funext y
    have e : s1.1 x = fun _ => 0 := by rw [← hs1]; exact h.2.2.2.2 x h1 h2
    show (if x = sz s + 10 ∧ y < 3 then _ else if x = sz s + 9 ∧ y < 3 then _ else s1.1 x y) = _
    rw [e]
    by_cases c : y < 3
    · by_cases d : x = sz s + 10
      · rw [if_pos ⟨d, c⟩, if_pos ⟨Or.inr d, c⟩]
      · by_cases f : x = sz s + 9
        · rw [if_neg (fun q => d q.1), if_pos ⟨f, c⟩, if_pos ⟨Or.inl f, c⟩]
        · rw [if_neg (fun q => d q.1), if_neg (fun q => f q.1), if_neg (fun q => q.1.elim f d)]
    · rw [if_neg (fun q => c q.2), if_neg (fun q => c q.2), if_neg (fun q => c q.2)]
theorem n_X4_12 (s : MH) : ∃ s', M_X4_init [mR (some (sz s)), mI 12] (al s 4 2) = some (none, s') ∧ Gw s s' 2 14 ∧ RouL s'.2 (sz s) 12 ∧ ∀ x, sz s ≤ x → x < sz s + 2 → s'.1 x = fun _ => 0 := by
  have h := new_aws s 4 2 [(11, 12, 0)]
  refine ⟨aws (sz s) [(11, 12, 0)] (al s 4 2), ?_, h.1, ⟨congrArg Prod.fst h.2.1, h.2.2.1 0, h.2.2.2.1 0 _ rfl, by decide⟩, fun x h1 h2 => h.2.2.2.2 x h1 h2⟩
  have k0 : kd (al s 4 2) (sz s) = 4 := al_kd s 4 2
  have k9 : sz s < sz (al s 4 2) := Nat.lt_succ_self _
  rw [E_X4_init, if_neg (by decide)]
  show ((nw (aws (sz s) [] (al s 4 2)) 11 12).bind fun s1 => (wR s1 4 (sz s) 0 (some (sz (aws (sz s) [] (al s 4 2))))).bind _) = _
  rw [aw_step k0 k9 _ 11 12 0 12 (by decide) (by decide) (by decide)]
  rfl
theorem n_X4_60 (s : MH) : ∃ s', M_X4_init [mR (some (sz s)), mI 60] (al s 4 2) = some (none, s') ∧ Gw s s' 2 62 ∧ RouL s'.2 (sz s) 60 ∧ ∀ x, sz s ≤ x → x < sz s + 2 → s'.1 x = fun _ => 0 := by
  have h := new_aws s 4 2 [(11, 60, 0)]
  refine ⟨aws (sz s) [(11, 60, 0)] (al s 4 2), ?_, h.1, ⟨congrArg Prod.fst h.2.1, h.2.2.1 0, h.2.2.2.1 0 _ rfl, by decide⟩, fun x h1 h2 => h.2.2.2.2 x h1 h2⟩
  have k0 : kd (al s 4 2) (sz s) = 4 := al_kd s 4 2
  have k9 : sz s < sz (al s 4 2) := Nat.lt_succ_self _
  rw [E_X4_init, if_neg (by decide)]
  show ((nw (aws (sz s) [] (al s 4 2)) 11 60).bind fun s1 => (wR s1 4 (sz s) 0 (some (sz (aws (sz s) [] (al s 4 2))))).bind _) = _
  rw [aw_step k0 k9 _ 11 60 0 60 (by decide) (by decide) (by decide)]
  rfl
theorem n_X7 (s : MH) : ∃ s', M_X7_init [mR (some (sz s))] (al s 7 9) = some (none, s') ∧ Gw s s' 6 98 ∧ WalL s'.2 (sz s) (sz s + 1) (sz s + 3) ∧ RouL s'.2 (sz s + 1) 12 ∧ BufL s'.2 (sz s + 3) ∧ ∀ x, sz s ≤ x → x < sz s + 6 → s'.1 x = fun _ => 0 := by
  obtain ⟨s1, e1, g1, l1, z1⟩ := n_X4_12 (al s 7 9)
  have q1 : sz (al s 7 9) = sz s + 1 := rfl
  rw [q1] at e1 l1 z1
  have k1 : s1.2.2.2.1 (sz s) = (7, 9) := (g1.2.2 (sz s) (Nat.lt_succ_self _)).2.2.2.trans (al_k s 7 9)
  have i1 : s1.1 (sz s) = fun _ => 0 := (g1.2.2 (sz s) (Nat.lt_succ_self _)).1.trans (al_0 s 7 9)
  have c1 : sz s1 = sz s + 3 := g1.1
  have hlt : sz s < sz s1 := by omega
  generalize hs2 : sR s1 (sz s) 0 (some (sz s + 1)) = s2
  have c2 : sz s2 = sz s + 3 := by rw [← hs2]; exact c1
  have k2 : s2.2.2.2.1 (sz s) = (7, 9) := by rw [← hs2]; exact k1
  have m2 : ∀ x, x ≠ sz s → Sm s1 s2 x := fun x hx => by rw [← hs2]; exact sR_sm s1 _ _ _ x hx
  have i2 : s2.1 = s1.1 := by rw [← hs2]
  have r2 : s2.2.2.1 (sz s) 0 = some (sz s + 1) := by rw [← hs2]; exact if_pos ⟨rfl, rfl⟩
  have hlt2 : sz s < sz s2 := by omega
  have w := aws_sz (sz s) [(11, 25, 1), (11, 25, 2), (11, 25, 3)] s2
  have a := aws_a (sz s) [(11, 25, 1), (11, 25, 2), (11, 25, 3)] s2 hlt2
  have nn := fun i q hq => aws_new (sz s) [(11, 25, 1), (11, 25, 2), (11, 25, 3)] s2 i q hlt2 hq
  have k0 : kd s2 (sz s) = 7 := congrArg Prod.fst k2
  have sm3 : ∀ x, x < sz s + 3 → x ≠ sz s → Sm s1 (aws (sz s) [(11, 25, 1), (11, 25, 2), (11, 25, 3)] s2) x := fun x h1 h2 => (m2 x h2).trans (aws_sm (sz s) _ s2 x (by omega) h2)
  refine ⟨aws (sz s) [(11, 25, 1), (11, 25, 2), (11, 25, 3)] s2, ?_, ⟨?_, ?_, fun x hx => ?_⟩, ?_, ?_, ?_, ?_⟩
  · rw [E_X7_init, if_pos (show kd (al (al s 7 9) 4 2) (sz s + 1) = 4 from al_kd (al s 7 9) 4 2)]
    show (M_X4_init [mR (some (sz s + 1)), mI 12] (al (al s 7 9) 4 2)).bind _ = _
    rw [e1]
    simp only [Option.bind_some, asV_n]
    rw [wR_ok (show kd s1 (sz s) = 7 from congrArg Prod.fst k1), Option.bind_some]
    rw [show sR s1 (sz s) 0 (some (sz (al s 7 9))) = s2 from hs2]
    show ((nw (aws (sz s) [] s2) 11 25).bind fun s1 => (wR s1 7 (sz s) 1 (some (sz (aws (sz s) [] s2)))).bind _) = _
    rw [aw_step k0 hlt2 _ 11 25 1 25 (by decide) (by decide) (by decide), aw_step k0 hlt2 _ 11 25 2 25 (by decide) (by decide) (by decide), aw_step k0 hlt2 _ 11 25 3 25 (by decide) (by decide) (by decide)]
    rfl
  · rw [w.1, c2]; rfl
  · rw [w.2]
    have : sl s2 = sl s1 := by rw [← hs2]
    rw [this, g1.2.1]
    show sl s + 9 + 14 + 75 = sl s + 98
    omega
  · exact ((al_sm s 7 9 x (Nat.ne_of_lt hx)).trans (g1.2.2 x (Nat.lt_succ_of_lt hx))).trans (sm3 x (by omega) (Nat.ne_of_lt hx))
  · refine ⟨congrArg Prod.fst (a.2.2.1.trans k2), (a.2.2.2 0).trans r2, (a.2.2.2 1).trans ?_, (a.2.2.2 2).trans ?_, (a.2.2.2 3).trans ?_⟩ <;> (rw [c2]; rfl)
  · have b : Bl s1.2 (aws (sz s) [(11, 25, 1), (11, 25, 2), (11, 25, 3)] s2).2 (sz s + 3) ∨ True := Or.inr trivial
    unfold RouL
    have u1 := sm3 (sz s + 1) (by omega) (by omega)
    have u2 := sm3 (sz s + 1 + 1) (by omega) (by omega)
    exact ⟨(congrArg Prod.fst u1.2.2.2).trans l1.k, (congrFun u1.2.2.1 0).trans l1.r1, u2.2.2.2.trans l1.s1, l1.b⟩
  · have u := fun i q hq => (nn i q hq).2.1
    rw [c2] at u
    exact ⟨u 0 _ rfl, u 1 _ rfl, u 2 _ rfl⟩
  · intro x h1 h2
    by_cases e : x = sz s
    · subst e
      rw [a.1, i2, i1]
    · by_cases f : x < sz s + 3
      · rw [(sm3 x f e).1]
        exact z1 x (by omega) (by omega)
      · have := fun i q hq => (nn i q hq).1
        rw [c2] at this
        by_cases f0 : x = sz s + 3
        · rw [f0]; exact this 0 _ rfl
        · by_cases f1 : x = sz s + 4
          · rw [f1]; exact this 1 _ rfl
          · rw [show x = sz s + 5 by omega]; exact this 2 _ rfl
end
section
/-! A world made. -/
/-- walkers made: k of them -/
def WksK (J : MJ) (z w k : Nat) : Prop := ∀ i, i < k → jR J z i = some (w + 6 * i) ∧ WalL J (w + 6 * i) (w + 6 * i + 1) (w + 6 * i + 3) ∧ RouL J (w + 6 * i + 1) 12 ∧ BufL J (w + 6 * i + 3)
theorem lp_X8_init {o z w : Nat} : ∀ (f k : Nat) (s : MH), k + f = 4 → o < w → z < w → o ≠ z → kd s o = 8 → s.2.2.1 o 3 = some z → s.2.2.2.1 z = (14, 4) → sz s = w + 6 * k → WksK s.2 z w k → (∀ x, w ≤ x → x < w + 6 * k → s.1 x = fun _ => 0) →
    ∃ s', Ev T_X8_init 40 [some (mR (some o)), none, none, some (mI (nI k))] [] s = some (none, s') ∧ sz s' = w + 24 ∧ sl s' = sl s + 98 * f ∧ (∀ x, x < w → x ≠ z → Sm s s' x) ∧ s'.1 z = s.1 z ∧ s'.2.1 z = s.2.1 z ∧ s'.2.2.2.1 z = (14, 4) ∧ WksK s'.2 z w 4 ∧ ∀ x, w ≤ x → x < w + 24 → s'.1 x = fun _ => 0 := by
  intro f
  induction f with
  | zero =>
    intro k s hk ho hz hoz hko hro hsz hc hw hi
    have hk : k = 4 := by omega
    subst hk
    obtain ⟨I, J⟩ := s
    refine ⟨(I, J), ?_, hc, rfl, fun x _ _ => Sm.refl _ x, rfl, rfl, hsz, hw, hi⟩
    rw [E_X8_init_40, fR_ok 3 hko, Option.bind_some, show jR J o 3 = some z from hro, Option.bind_some, aln_ok hsz (by decide), Option.bind_some, if_pos (by decide)]
  | succ f ih =>
    intro k s hk ho hz hoz hko hro hsz hc hw hi
    obtain ⟨s1, e1, g1, w1, p1, b1, z1⟩ := n_X7 s
    rw [hc] at w1 p1 b1 z1
    have kz1 : s1.2.2.2.1 z = (14, 4) := (g1.2.2 z (by omega)).2.2.2.trans hsz
    have rz1 : s1.2.2.1 z = s.2.2.1 z := (g1.2.2 z (by omega)).2.2.1
    have hx : ix (nI k) = k := ix_nI (by omega)
    generalize hs2 : sR s1 z k (some (w + 6 * k)) = s2
    have m2 : ∀ x, x ≠ z → Sm s1 s2 x := fun x q => by rw [← hs2]; exact sR_sm s1 _ _ _ x q
    have c2 : sz s2 = w + 6 * (k + 1) := by rw [← hs2]; show sz s1 = _; rw [g1.1, hc]; omega
    have i2 : s2.1 = s1.1 := by rw [← hs2]
    have wk : WksK s2.2 z w (k + 1) := by
      intro i hik
      by_cases e : i = k
      · subst e
        have u := fun x (q : x ≠ z) => m2 x q
        refine ⟨by rw [← hs2]; exact if_pos ⟨rfl, rfl⟩, ?_, ?_, ?_⟩
        · unfold WalL
          have q := u (w + 6 * i) (by omega)
          rw [show jS s2.2 (w + 6 * i) = jS s1.2 (w + 6 * i) from q.2.2.2, show jR s2.2 (w + 6 * i) = jR s1.2 (w + 6 * i) from q.2.2.1]
          exact w1
        · unfold RouL
          have q := u (w + 6 * i + 1) (by omega)
          have q' := u (w + 6 * i + 1 + 1) (by omega)
          rw [show jS s2.2 (w + 6 * i + 1) = jS s1.2 (w + 6 * i + 1) from q.2.2.2, show jR s2.2 (w + 6 * i + 1) = jR s1.2 (w + 6 * i + 1) from q.2.2.1, show jS s2.2 (w + 6 * i + 1 + 1) = jS s1.2 (w + 6 * i + 1 + 1) from q'.2.2.2]
          exact p1
        · unfold BufL
          rw [show jS s2.2 (w + 6 * i + 3) = jS s1.2 (w + 6 * i + 3) from (u (w + 6 * i + 3) (by omega)).2.2.2, show jS s2.2 (w + 6 * i + 3 + 1) = jS s1.2 (w + 6 * i + 3 + 1) from (u (w + 6 * i + 3 + 1) (by omega)).2.2.2, show jS s2.2 (w + 6 * i + 3 + 2) = jS s1.2 (w + 6 * i + 3 + 2) from (u (w + 6 * i + 3 + 2) (by omega)).2.2.2]
          exact b1
      · have hi' : i < k := by omega
        have old := hw i hi'
        have u : ∀ x, w + 6 * i ≤ x → x < w + 6 * k → jS s2.2 x = jS s.2 x ∧ jR s2.2 x = jR s.2 x := fun x h1 h2 => by
          have q := (g1.2.2 x (by omega)).trans (m2 x (by omega))
          exact ⟨q.2.2.2, q.2.2.1⟩
        refine ⟨?_, ?_, ?_, ?_⟩
        · rw [← hs2]
          show (if z = z ∧ i = k then _ else s1.2.2.1 z i) = _
          rw [if_neg (fun q => e q.2), rz1]
          exact old.1
        · unfold WalL
          rw [(u (w + 6 * i) (by omega) (by omega)).1, (u (w + 6 * i) (by omega) (by omega)).2]
          exact old.2.1
        · unfold RouL
          rw [(u (w + 6 * i + 1) (by omega) (by omega)).1, (u (w + 6 * i + 1) (by omega) (by omega)).2, (u (w + 6 * i + 1 + 1) (by omega) (by omega)).1]
          exact old.2.2.1
        · unfold BufL
          rw [(u (w + 6 * i + 3) (by omega) (by omega)).1, (u (w + 6 * i + 3 + 1) (by omega) (by omega)).1, (u (w + 6 * i + 3 + 2) (by omega) (by omega)).1]
          exact old.2.2.2
    have i0 : ∀ x, w ≤ x → x < w + 6 * (k + 1) → s2.1 x = fun _ => 0 := by
      intro x h1 h2
      rw [i2]
      by_cases e : x < w + 6 * k
      · rw [(g1.2.2 x (by omega)).1]
        exact hi x h1 e
      · exact z1 x (by omega) (by omega)
    have so : Sm s s2 o := (g1.2.2 o (by omega)).trans (m2 o hoz)
    have kz2 : s2.2.2.2.1 z = (14, 4) := by rw [← hs2]; exact kz1
    obtain ⟨s', e', q1, q2, q3, q4, q5, q6, q7, q8⟩ := ih (k + 1) s2 (by omega) ho hz hoz ((congrArg Prod.fst so.2.2.2).trans hko) ((congrFun so.2.2.1 3).trans hro) kz2 c2 wk i0
    refine ⟨s', ?_, q1, ?_, fun x h1 h2 => ((g1.2.2 x (by omega)).trans (m2 x h2)).trans (q3 x h1 h2), ?_, ?_, q6, q7, q8⟩
    · obtain ⟨I, J⟩ := s
      have hc' : sz (I, J) = w + 6 * k := hc
      rw [hc'] at e1
      rw [E_X8_init_40, fR_ok 3 hko, Option.bind_some, show jR J o 3 = some z from hro, Option.bind_some, aln_ok hsz (by decide), Option.bind_some, if_neg (show ¬ nI 4 ≤ nI k from nI_ge (show k < 4 by omega) (by decide)), Option.bind_some, hc', if_pos (by have := al_kd (I, J) 7 9; rwa [hc'] at this), e1]
      simp only [Option.bind_some, asV_n]
      have es : stR s1 z (nI k) (some (w + 6 * k)) = some s2 := by
        unfold stR
        rw [if_pos, show (nI k).toNatClampNeg = k from hx, hs2]
        have kk : kd s1 z = 14 := congrArg Prod.fst kz1
        refine ⟨by rw [kk]; decide, ?_, ?_⟩
        · rw [show ln s1 z = 4 from congrArg Prod.snd kz1]
          exact inb_nI (by omega) (by decide)
        · unfold elt
          rw [kk]
          have k7 : kd s1 (w + 6 * k) = 7 := w1.k
          show (14 == 13 && kd s1 (w + 6 * k) == 4 || 14 == 14 && kd s1 (w + 6 * k) == 7 || 14 == 15 && kd s1 (w + 6 * k) == 8) = true
          rw [k7]
          rfl
      rw [es, Option.bind_some, nI_1]
      exact e'
    · rw [q2, show sl s2 = sl s1 by rw [← hs2], g1.2.1]
      omega
    · rw [q4, i2, (g1.2.2 z (by omega)).1]
    · rw [q5, show s2.2.1 = s1.2.1 by rw [← hs2], (g1.2.2 z (by omega)).2.1]
theorem c_X8_init {s : MH} {o n m : Nat} (ho : o < sz s) (hk : s.2.2.2.1 o = (8, 4)) (hr : ∀ k, s.2.2.1 o k = none) : ∃ s', M_X8_init [mR (some o), mR (some n), mR (some m)] s = some (none, s') ∧ sz s' = sz s + 26 ∧ sl s' = sl s + 402 ∧ (∀ x, x < sz s → x ≠ o → Sm s s' x) ∧ s'.1 o = s.1 o ∧ s'.2.1 o = s.2.1 o ∧ s'.2.2.2.1 o = (8, 4) ∧ WorL s'.2 o n m (sz s) (sz s + 1) ∧ HanL s'.2 (sz s) ∧ WksL s'.2 (sz s + 1) (sz s + 2) ∧ (∀ x, sz s < x → x < sz s + 26 → s'.1 x = fun _ => 0) ∧ s'.1 (sz s) = fun y => if y < 6 then -1 else 0 := by
  have k0 : kd s o = 8 := congrArg Prod.fst hk
  have a := aws_a o [(11, 6, 2), (14, 4, 3)] s ho
  have w := aws_sz o [(11, 6, 2), (14, 4, 3)] s
  have sm := aws_sm o [(11, 6, 2), (14, 4, 3)] s
  have nn := fun i q hq => aws_new o [(11, 6, 2), (14, 4, 3)] s i q ho hq
  generalize hs1 : aws o [(11, 6, 2), (14, 4, 3)] s = s1 at a w sm nn
  have c1 : sz s1 = sz s + 2 := w.1
  have ka : kd s1 o = 8 := (congrArg Prod.fst a.2.2.1).trans k0
  generalize hs2 : sR (sR s1 o 0 (some n)) o 1 (some m) = s2
  have m2 : ∀ x, x ≠ o → Sm s1 s2 x := fun x q => by rw [← hs2]; exact (sR_sm s1 _ _ _ x q).trans (sR_sm _ _ _ _ x q)
  have i2 : s2.1 = s1.1 := by rw [← hs2]
  have l2 : s2.2.1 = s1.2.1 := by rw [← hs2]
  have k2 : s2.2.2.2 = s1.2.2.2 := by rw [← hs2]
  have r20 : s2.2.2.1 o 0 = some n := by
    rw [← hs2]
    show (if o = o ∧ 0 = 1 then _ else if o = o ∧ 0 = 0 then _ else _) = _
    rw [if_neg (by simp), if_pos ⟨rfl, rfl⟩]
  have r21 : s2.2.2.1 o 1 = some m := by rw [← hs2]; exact if_pos ⟨rfl, rfl⟩
  have r2k : ∀ k, k ≠ 0 → k ≠ 1 → s2.2.2.1 o k = s1.2.2.1 o k := fun k h1 h2 => by
    rw [← hs2]
    show (if o = o ∧ k = 1 then _ else if o = o ∧ k = 0 then _ else _) = _
    rw [if_neg (fun q => h2 q.2), if_neg (fun q => h1 q.2)]
  have r22 : s2.2.2.1 o 2 = some (sz s) := (r2k 2 (by decide) (by decide)).trans (a.2.2.2 2)
  have r23 : s2.2.2.1 o 3 = some (sz s + 1) := (r2k 3 (by decide) (by decide)).trans (a.2.2.2 3)
  have sh : s2.2.2.2.1 (sz s) = (11, 6) := by rw [k2]; exact (nn 0 _ rfl).2.1
  have sh1 : s2.2.2.2.1 (sz s + 1) = (14, 4) := by rw [k2]; exact (nn 1 _ rfl).2.1
  have ko2 : s2.2.2.2.1 o = (8, 4) := by rw [k2, a.2.2.1]; exact hk
  generalize hs3 : ((fun x y => if x = sz s ∧ y < 6 then -1 else s2.1 x y, s2.2) : MH) = s3
  have j3 : s3.2 = s2.2 := by rw [← hs3]
  have i3 : ∀ x, x ≠ sz s → s3.1 x = s2.1 x := fun x q => by
    rw [← hs3]
    funext y
    exact if_neg (fun z => q z.1)
  have i3h : s3.1 (sz s) = fun y => if y < 6 then -1 else 0 := by
    rw [← hs3]
    funext y
    show (if sz s = sz s ∧ y < 6 then _ else s2.1 (sz s) y) = _
    rw [i2, show s1.1 (sz s) = fun _ => 0 from (nn 0 _ rfl).1]
    by_cases e : y < 6
    · rw [if_pos ⟨rfl, e⟩, if_pos e]
    · rw [if_neg (fun z => e z.2), if_neg e]
  obtain ⟨s', e', q1, q2, q3, q4, q5, q6, q7, q8⟩ := lp_X8_init (o := o) (z := sz s + 1) (w := sz s + 2) 4 0 s3 rfl (by omega) (by omega) (by omega) (by rw [show kd s3 o = (s3.2.2.2.1 o).1 from rfl, j3, ko2]) (by rw [j3]; exact r23) (by rw [j3]; exact sh1) (by rw [show sz s3 = s3.2.2.2.2.1 from rfl, j3, k2]; exact c1) (fun i hi => absurd hi (by omega)) (fun x h1 h2 => absurd h2 (by omega))
  have hq : Sm s3 s' (sz s) := q3 (sz s) (by omega) (by omega)
  have hqo : Sm s3 s' o := q3 o (by omega) (by omega)
  refine ⟨s', ?_, q1, ?_, ?_, ?_, ?_, ?_, ?_, ?_, ?_, ?_, ?_⟩
  · rw [E_X8_init]
    show ((nw (aws o [] s) 11 6).bind fun s1 => (wR s1 8 o 2 (some (sz (aws o [] s)))).bind _) = _
    rw [aw_step k0 ho _ 11 6 2 6 (by decide) (by decide) (by decide), aw_step k0 ho _ 14 4 3 4 (by decide) (by decide) (by decide)]
    show ((wR (aws o [(11, 6, 2), (14, 4, 3)] s) 8 o 0 (some n)).bind _) = _
    rw [hs1, wR_ok ka, Option.bind_some, wR_ok (show kd (sR s1 o 0 (some n)) o = 8 from ka), Option.bind_some, hs2]
    obtain ⟨I2, J2⟩ := s2
    rw [fR_ok 2 (show (jS J2 o).1 = 8 from congrArg Prod.fst ko2), Option.bind_some, show jR J2 o 2 = some (sz s) from r22, fill_s sh (by decide)]
    simp only [Option.bind_some, asV_n]
    rw [← hs3] at e'
    exact e'
  · rw [q2, show sl s3 = s3.2.2.2.2.2 from rfl, j3, k2]
    show sl s1 + _ = _
    rw [w.2]
    rfl
  · intro x h1 h2
    have u : Sm s2 s3 x := ⟨i3 x (by omega), by rw [j3], by rw [j3], by rw [j3]⟩
    exact (((sm x h1 h2).trans (m2 x h2)).trans u).trans (q3 x (by omega) (by omega))
  · rw [hqo.1, i3 o (by omega), i2, a.1]
  · rw [hqo.2.1, j3, l2, a.2.1]
  · rw [hqo.2.2.2, j3, ko2]
  · refine ⟨?_, ?_, ?_, ?_, ?_⟩
    · show (s'.2.2.2.1 o).1 = 8
      rw [hqo.2.2.2, j3, ko2]
    · show s'.2.2.1 o 0 = _
      rw [hqo.2.2.1, j3, r20]
    · show s'.2.2.1 o 1 = _
      rw [hqo.2.2.1, j3, r21]
    · show s'.2.2.1 o 2 = _
      rw [hqo.2.2.1, j3, r22]
    · show s'.2.2.1 o 3 = _
      rw [hqo.2.2.1, j3, r23]
  · exact ⟨by show s'.2.2.2.1 (sz s) = _; rw [hq.2.2.2, j3, sh], rfl⟩
  · refine ⟨?_, q7⟩
    show ((13 ≤ (s'.2.2.2.1 (sz s + 1)).1 ∧ (s'.2.2.2.1 (sz s + 1)).1 ≤ 16) ∧ (s'.2.2.2.1 (sz s + 1)).2 = 4)
    rw [q6]
    decide
  · intro x h1 h2
    by_cases e : x = sz s + 1
    · rw [e, q4, i3 _ (by omega), i2]
      exact (nn 1 _ rfl).1
    · exact q8 x (by omega) (by omega)
  · rw [hq.1, i3h]
end
section
/-! Worlds kept, and brought back. -/
def KwL (J : MJ) (a : Nat) : Prop := NodL J a ∧ WorL J (a + 6) a (a + 7) (a + 19) (a + 20) ∧ MemL J (a + 7) a ∧ HanL J (a + 19) ∧ WksL J (a + 20) (a + 21)
theorem KwL.up {J J' : MJ} {a b : Nat} (h : KwL J a) (g : Bl J J' b) (e : a + 45 ≤ b) : KwL J' a := ⟨h.1.up g (by omega), h.2.1.up g (by omega), h.2.2.1.up g (by omega), h.2.2.2.1.up g (by omega), h.2.2.2.2.up g (by omega) (by omega)⟩
/-- layouts at other places than z -/
def Ex (J J' : MJ) (z b : Nat) : Prop := ∀ x, x < b → x ≠ z → jR J' x = jR J x ∧ jS J' x = jS J x
theorem n_world (s : MH) : ∃ s1 s2 s3, M_X2_init [mR (some (sz s))] (al s 2 7) = some (none, s1) ∧ sz s1 = sz s + 6 ∧ M_X1_init [mR (some (sz s + 7)), mR (some (sz s))] (al (al s1 8 4) 1 17) = some (none, s2) ∧ s2.2.2.2.1 (sz s + 6) = (8, 4) ∧ M_X8_init [mR (some (sz s + 6)), mR (some (sz s)), mR (some (sz s + 7))] s2 = some (none, s3) ∧ Gw s s3 45 1193 ∧ KwL s3.2 (sz s) := by
  obtain ⟨s1, e1, g1, l1, z1⟩ := n_X2 s
  have c1 : sz s1 = sz s + 6 := g1.1
  have ga := al_gw s1 8 4
  have ca : sz (al s1 8 4) = sz s + 7 := by show sz s1 + 1 = _; omega
  obtain ⟨s2, e2, g2, l2, z2⟩ := n_X1 (al s1 8 4) (sz s)
  rw [ca] at e2 l2 z2
  have c2 : sz s2 = sz s + 19 := by rw [g2.1, ca]
  have ko : s2.2.2.2.1 (sz s + 6) = (8, 4) := by
    rw [(g2.2.2 (sz s + 6) (by omega)).2.2.2]
    have := al_k s1 8 4
    rwa [c1] at this
  have ro : ∀ k, s2.2.2.1 (sz s + 6) k = none := fun k => by
    rw [(g2.2.2 (sz s + 6) (by omega)).2.2.1]
    show (if sz s + 6 = sz s1 then none else _) = none
    rw [if_pos c1.symm]
  obtain ⟨s3, e3, q1, q2, q3, q4, q5, q6, q7, q8, q9, q10, q11⟩ := c_X8_init (s := s2) (o := sz s + 6) (n := sz s) (m := sz s + 7) (by omega) ko ro
  rw [c2] at q7 q8 q9 q10 q11
  refine ⟨s1, s2, s3, e1, c1, e2, ko, e3, ⟨by omega, ?_, fun x hx => ?_⟩, ?_⟩
  · rw [q2, g2.2.1]
    show sl s1 + 4 + 537 + 402 = _
    rw [g1.2.1]
  · exact (((g1.2.2 x hx).trans (ga.2.2 x (by omega))).trans (g2.2.2 x (by omega))).trans (q3 x (by omega) (by omega))
  · have b13 : ∀ x, x < sz s + 19 → x ≠ sz s + 6 → Sm s2 s3 x := fun x h1 h2 => q3 x (by omega) h2
    have b1 : Bl s1.2 s3.2 (sz s + 6) := fun x hx => by
      have := ((ga.2.2 x (by omega)).trans (g2.2.2 x (by omega))).trans (b13 x (by omega) (by omega))
      exact ⟨this.2.2.1, this.2.2.2⟩
    refine ⟨l1.up b1 (Nat.le_refl _), q7, ?_, q8, q9⟩
    have u : ∀ x, sz s + 7 ≤ x → x < sz s + 19 → jR s3.2 x = jR s2.2 x ∧ jS s3.2 x = jS s2.2 x := fun x h1 h2 => by
      have := b13 x h2 (by omega)
      exact ⟨this.2.2.1, this.2.2.2⟩
    unfold MemL
    rw [(u (sz s + 7) (by omega) (by omega)).1, (u (sz s + 7) (by omega) (by omega)).2, (u (sz s + 7 + 1) (by omega) (by omega)).2, (u (sz s + 7 + 2) (by omega) (by omega)).2, (u (sz s + 7 + 3) (by omega) (by omega)).2, (u (sz s + 7 + 4) (by omega) (by omega)).2, (u (sz s + 7 + 5) (by omega) (by omega)).2, (u (sz s + 7 + 6) (by omega) (by omega)).2, (u (sz s + 7 + 7) (by omega) (by omega)).2, (u (sz s + 7 + 8) (by omega) (by omega)).2, (u (sz s + 7 + 9) (by omega) (by omega)).2, (u (sz s + 7 + 10) (by omega) (by omega)).2, (u (sz s + 7 + 11) (by omega) (by omega)).2]
    exact l2
theorem cpw_out (w2 w k : Nat) (I : MI) (x : Nat) (h : x < w + 6 * k ∨ w + 6 * k + 6 ≤ x) : cpw w2 w k I x = I x := by
  unfold cpw
  rw [pt_out (x := x) (by omega), pt_out (x := x) (by omega), pt_out (x := x) (by omega)]
theorem h_copy_out (I : MI) (n2 m2 g2 w2 n m g w x : Nat) (h1 : x < n ∨ n + 6 ≤ x) (h2 : x < m ∨ m + 12 ≤ x) (h3 : x ≠ g) (h4 : x < w ∨ w + 24 ≤ x) : h_X8_copyFrom I n2 m2 g2 w2 n m g w x = I x := by
  unfold h_X8_copyFrom
  show cpw w2 w 3 (cpw w2 w 2 (cpw w2 w 1 (cpw w2 w 0 _))) x = _
  rw [cpw_out _ _ _ _ _ (by omega), cpw_out _ _ _ _ _ (by omega), cpw_out _ _ _ _ _ (by omega), cpw_out _ _ _ _ _ (by omega)]
  funext y
  show (if x = g ∧ y < 6 then _ else _) = _
  rw [if_neg (fun q => h3 q.1), pt_out (x := x) h2, pt_out (x := x) h1]
def HisL (J : MJ) (a z : Nat) : Prop := (jS J a).1 = 0 ∧ jR J a 0 = some z ∧ jS J z = (15, 20)
def kpI (I : MI) (a p q : Nat) : MI := up2 (up2 I a 1 (nI (if p + 1 < 20 then p + 1 else 0))) a 2 (nI (min (q + 1) 20))
theorem kp_tail {J : MJ} {a z p q : Nat} (hL : HisL J a z) (I : MI) (hp : I a 1 = nI p) (hq : I a 2 = nI q) (h1 : p < 20) (h2 : q ≤ 20) : ((fI (I, J) 0 a 1).bind fun v67 => (fR (I, J) 0 a 0).bind fun v68 => v68.bind fun b70 => (aln (I, J) b70).bind fun v69 => (if v69 ≤ (v67 + 1) then (wI (I, J) 0 a 1 0).bind fun s71 => (fI s71 0 a 2).bind fun v72 => (fR s71 0 a 0).bind fun v73 => v73.bind fun b75 => (aln s71 b75).bind fun v74 => (wI s71 0 a 2 (if v74 < (v72 + 1) then v74 else (v72 + 1))).bind fun s76 => some ((none : Option MV), s76) else (fI (I, J) 0 a 1).bind fun v77 => (wI (I, J) 0 a 1 (v77 + 1)).bind fun s78 => (fI s78 0 a 2).bind fun v79 => (fR s78 0 a 0).bind fun v80 => v80.bind fun b82 => (aln s78 b82).bind fun v81 => (wI s78 0 a 2 (if v81 < (v79 + 1) then v81 else (v79 + 1))).bind fun s83 => some (none, s83))) = some (none, (kpI I a p q, J)) := by
  have hm : (if nI 20 < nI q + 1 then nI 20 else nI q + 1) = nI (min (q + 1) 20) := by
    rw [nI_1]
    by_cases e : q = 20
    · subst e; rfl
    · rw [if_neg (by rw [i32_lt, nI_toInt (by omega), nI_toInt (by omega)]; omega), show min (q + 1) 20 = q + 1 by omega]
  have u2 : ∀ v, up2 I a 1 v a 2 = nI q := fun v => by
    show (if a = a ∧ 2 = 1 then _ else _) = _
    rw [if_neg (by simp), hq]
  simp only [fI_ok 1 hL.1, fI_ok 2 hL.1, fR_ok 0 hL.1, hL.2.1, aln_ok hL.2.2 (by decide), wI_ok 1 _ hL.1, wI_ok 2 _ hL.1, Option.bind_some, hp, u2, hm]
  rw [nI_1]
  unfold kpI
  by_cases e : p + 1 < 20
  · rw [if_neg (by rw [i32_le, nI_toInt (by omega), nI_toInt (by omega)]; omega), if_pos e]
  · rw [if_pos (by rw [i32_le, nI_toInt (by omega), nI_toInt (by omega)]; omega), if_neg e]
    rfl
theorem t_keep_old {J : MJ} {h z o2 n2 m2 g2 z2 w2 p q a : Nat} (hL : HisL J h z) (hO2 : WorL J o2 n2 m2 g2 z2) (hH2 : HanL J g2) (hW2 : WksL J z2 w2) (hN2 : NodL J n2) (hM2 : MemL J m2 n2) (hK : KwL J a) (hr : jR J z p = some (a + 6)) (d1 : n2 + 6 ≤ a) (d2 : m2 + 12 ≤ a) (d3 : g2 < a) (d4 : w2 + 24 ≤ a) (d5 : h < a) (I : MI) (hp : I h 1 = nI p) (hq : I h 2 = nI q) (h1 : p < 20) (h2 : q ≤ 20) : M_X0_keep [mR (some h), mR (some o2)] (I, J) = some (none, (kpI (h_X8_copyFrom I n2 m2 g2 w2 a (a + 7) (a + 19) (a + 21)) h p q, J)) := by
  have ho : ∀ k, h_X8_copyFrom I n2 m2 g2 w2 a (a + 7) (a + 19) (a + 21) h k = I h k := fun k => congrFun (h_copy_out I _ _ _ _ _ _ _ _ h (by omega) (by omega) (by omega) (by omega)) k
  rw [E_X0_keep, fI_ok 1 hL.1, Option.bind_some, hp, if_neg (nI_pos (by omega)), Option.bind_some, fR_ok 0 hL.1, Option.bind_some, hL.2.1, Option.bind_some, aln_ok hL.2.2 (by decide), Option.bind_some, if_pos (by rw [i32_lt, nI_toInt (by omega), nI_toInt (by omega)]; omega), Option.bind_some, Option.bind_some, Option.bind_some, ldR_ok _ hL.2.2 (by decide) (inb_nI h1 (by decide)), Option.bind_some, show (nI p).toNatClampNeg = p from ix_nI (by omega), hr, cR_s, Option.bind_some, if_pos (show kd (I, J) (a + 6) = 8 from hK.2.1.k), t_X8_copyFrom hO2 hH2 hW2 hN2 hM2 hK.2.1 hK.2.2.2.1 hK.2.2.2.2 hK.1 hK.2.2.1 (by omega) (by omega) (by omega) (by omega) (by omega) (by omega) (by omega) (by omega) I, Option.bind_some, asV_n, Option.bind_some]
  exact kp_tail hL _ ((ho 1).trans hp) ((ho 2).trans hq) h1 h2
end
section
/-! A world kept at a place made anew; one brought back. -/
theorem WorL.ex {J J' : MJ} {o n m c y z b : Nat} (h : WorL J o n m c y) (g : Ex J J' z b) (e : o < b) (e2 : o ≠ z) : WorL J' o n m c y := by
  unfold WorL
  rw [(g o e e2).1, (g o e e2).2]
  exact h
theorem t_keep_new {J : MJ} {h z o2 n2 m2 g2 z2 w2 p q : Nat} (hL : HisL J h z) (hO2 : WorL J o2 n2 m2 g2 z2) (hH2 : HanL J g2) (hW2 : WksL J z2 w2) (hN2 : NodL J n2) (hM2 : MemL J m2 n2) (hr : jR J z p = none) (I : MI) (d1 : n2 + 6 ≤ sz (I, J)) (d2 : m2 + 12 ≤ sz (I, J)) (d3 : g2 < sz (I, J)) (d4 : w2 + 24 ≤ sz (I, J)) (d5 : h < sz (I, J)) (d6 : z < sz (I, J)) (d7 : o2 < sz (I, J)) (d8 : z2 < sz (I, J)) (n1 : n2 + 6 ≤ z ∨ z < n2) (n2' : m2 + 12 ≤ z ∨ z < m2) (n3 : w2 + 24 ≤ z ∨ z < w2) (n4 : z ≠ o2) (n5 : z ≠ h) (n6 : z ≠ z2) (n7 : z ≠ g2) (hp : I h 1 = nI p) (hq : I h 2 = nI q) (h1 : p < 20) (h2 : q ≤ 20) :
    ∃ I1 J1, M_X0_keep [mR (some h), mR (some o2)] (I, J) = some (none, (kpI (h_X8_copyFrom I1 n2 m2 g2 w2 (sz (I, J)) (sz (I, J) + 7) (sz (I, J) + 19) (sz (I, J) + 21)) h p q, J1)) ∧ sz (I1, J1) = sz (I, J) + 45 ∧ sl (I1, J1) = sl (I, J) + 1193 ∧ (∀ x, x < sz (I, J) → I1 x = I x ∧ J1.1 x = J.1 x ∧ jS J1 x = jS J x) ∧ Ex J J1 z (sz (I, J)) ∧ (∀ k, jR J1 z k = if k = p then some (sz (I, J) + 6) else jR J z k) ∧ KwL J1 (sz (I, J)) := by
  obtain ⟨s1, s2, s3, e1, c1, e2, k2, e3, g3, kw⟩ := n_world (I, J)
  generalize hc : sz (I, J) = c at *
  have c3 : sz s3 = c + 45 := by have := g3.1; rw [hc] at this; exact this
  have same : ∀ x, x < c → Sm (I, J) s3 x := fun x hx => g3.2.2 x (by rw [hc]; exact hx)
  obtain ⟨I3, J3⟩ := s3
  generalize hJ1 : ((J3.1, up2 J3.2.1 z p (some (c + 6)), J3.2.2) : MJ) = J1
  have kz : jS J3 z = (15, 20) := (same z d6).2.2.2.trans hL.2.2
  have kh3 : (jS J3 h).1 = 0 := (congrArg Prod.fst (same h d5).2.2.2).trans hL.1
  have rh3 : jR J3 h 0 = some z := (congrFun (same h d5).2.2.1 0).trans hL.2.1
  have jS1 : ∀ x, jS J1 x = jS J3 x := fun x => by rw [← hJ1]
  have jR1 : ∀ x, x ≠ z → jR J1 x = jR J3 x := fun x hx => by
    rw [← hJ1]
    funext y
    exact if_neg (fun q => hx q.1)
  have ex : Ex J J1 z c := fun x hx hz => ⟨(jR1 x hz).trans (same x hx).2.2.1, (jS1 x).trans (same x hx).2.2.2⟩
  have hL1 : HisL J1 h z := ⟨by rw [jS1]; exact kh3, by rw [jR1 h (Ne.symm n5)]; exact rh3, by rw [jS1]; exact kz⟩
  have up : ∀ x, c ≤ x → jR J1 x = jR J3 x ∧ jS J1 x = jS J3 x := fun x hx => ⟨jR1 x (by omega), jS1 x⟩
  have kw1 : KwL J1 c := by
    have b : Bl (J3.1, (fun x => if x = z then jR J1 z else jR J3 x), J3.2.2) J1 (c + 45) := fun x _ => by
      refine ⟨?_, jS1 x⟩
      show jR J1 x = if x = z then jR J1 z else jR J3 x
      by_cases e : x = z
      · rw [if_pos e, e]
      · rw [if_neg e, jR1 x e]
    have cg : ∀ x, c ≤ x → jR (J3.1, (fun x => if x = z then jR J1 z else jR J3 x), J3.2.2) x = jR J3 x := fun x hx => if_neg (show ¬ x = z by omega)
    refine KwL.up (b := c + 45) ?_ b (Nat.le_refl _)
    have kn := kw.1
    have ko := kw.2.1
    have km := kw.2.2.1
    have kg := kw.2.2.2.1
    have kk := kw.2.2.2.2
    refine ⟨?_, ?_, ?_, kg, ⟨kk.1, fun k hk => ⟨?_, ?_, ?_, (kk.2 k hk).2.2.2⟩⟩⟩
    · unfold NodL
      rw [cg c (Nat.le_refl _)]
      exact kn
    · unfold WorL
      rw [cg (c + 6) (by omega)]
      exact ko
    · unfold MemL
      rw [cg (c + 7) (by omega)]
      exact km
    · rw [cg (c + 20) (by omega)]
      exact (kk.2 k hk).1
    · unfold WalL
      rw [cg (c + 21 + 6 * k) (by omega)]
      exact (kk.2 k hk).2.1
    · unfold RouL
      rw [cg (c + 21 + 6 * k + 1) (by omega)]
      exact (kk.2 k hk).2.2.1
  have exN : NodL J1 n2 := by
    unfold NodL
    have u : ∀ x, n2 ≤ x → x < n2 + 6 → jR J1 x = jR J x ∧ jS J1 x = jS J x := fun x a b => ex x (by omega) (by omega)
    rw [(u n2 (by omega) (by omega)).1, (u n2 (by omega) (by omega)).2, (u (n2 + 1) (by omega) (by omega)).2, (u (n2 + 2) (by omega) (by omega)).2, (u (n2 + 3) (by omega) (by omega)).2, (u (n2 + 4) (by omega) (by omega)).2, (u (n2 + 5) (by omega) (by omega)).2]
    exact hN2
  have exM : MemL J1 m2 n2 := by
    unfold MemL
    have u : ∀ x, m2 ≤ x → x < m2 + 12 → jR J1 x = jR J x ∧ jS J1 x = jS J x := fun x a b => ex x (by omega) (by omega)
    rw [(u m2 (by omega) (by omega)).1, (u m2 (by omega) (by omega)).2, (u (m2 + 1) (by omega) (by omega)).2, (u (m2 + 2) (by omega) (by omega)).2, (u (m2 + 3) (by omega) (by omega)).2, (u (m2 + 4) (by omega) (by omega)).2, (u (m2 + 5) (by omega) (by omega)).2, (u (m2 + 6) (by omega) (by omega)).2, (u (m2 + 7) (by omega) (by omega)).2, (u (m2 + 8) (by omega) (by omega)).2, (u (m2 + 9) (by omega) (by omega)).2, (u (m2 + 10) (by omega) (by omega)).2, (u (m2 + 11) (by omega) (by omega)).2]
    exact hM2
  have exO : WorL J1 o2 n2 m2 g2 z2 := hO2.ex ex d7 (Ne.symm n4)
  have exH : HanL J1 g2 := ⟨(ex g2 d3 (Ne.symm n7)).2.trans hH2.s0, rfl⟩
  have exW : WksL J1 z2 w2 := by
    refine ⟨?_, fun k hk => ⟨?_, ?_, ?_, ?_⟩⟩
    · rw [(ex z2 d8 (Ne.symm n6)).2]; exact hW2.1
    · rw [(ex z2 d8 (Ne.symm n6)).1]; exact (hW2.2 k hk).1
    · unfold WalL
      rw [(ex (w2 + 6 * k) (by omega) (by omega)).1, (ex (w2 + 6 * k) (by omega) (by omega)).2]
      exact (hW2.2 k hk).2.1
    · unfold RouL
      rw [(ex (w2 + 6 * k + 1) (by omega) (by omega)).1, (ex (w2 + 6 * k + 1) (by omega) (by omega)).2, (ex (w2 + 6 * k + 1 + 1) (by omega) (by omega)).2]
      exact (hW2.2 k hk).2.2.1
    · unfold BufL
      rw [(ex (w2 + 6 * k + 3) (by omega) (by omega)).2, (ex (w2 + 6 * k + 3 + 1) (by omega) (by omega)).2, (ex (w2 + 6 * k + 3 + 2) (by omega) (by omega)).2]
      exact (hW2.2 k hk).2.2.2
  refine ⟨I3, J1, ?_, ?_, ?_, fun x hx => ⟨(same x hx).1, ?_, (jS1 x).trans (same x hx).2.2.2⟩, ex, ?_, kw1⟩
  · have i3 : ∀ k, I3 h k = I h k := fun k => congrFun (same h d5).1 k
    have ho : ∀ k, h_X8_copyFrom I3 n2 m2 g2 w2 c (c + 7) (c + 19) (c + 21) h k = I h k := fun k => (congrFun (h_copy_out I3 _ _ _ _ _ _ _ _ h (by omega) (by omega) (by omega) (by omega)) k).trans (i3 k)
    rw [E_X0_keep, fI_ok 1 hL.1, Option.bind_some, hp, if_neg (nI_pos (by omega)), Option.bind_some, fR_ok 0 hL.1, Option.bind_some, hL.2.1, Option.bind_some, aln_ok hL.2.2 (by decide), Option.bind_some, if_pos (by rw [i32_lt, nI_toInt (by omega), nI_toInt (by omega)]; omega), Option.bind_some, Option.bind_some, Option.bind_some, ldR_ok _ hL.2.2 (by decide) (inb_nI h1 (by decide)), Option.bind_some, show (nI p).toNatClampNeg = p from ix_nI (by omega), hr, cR_n, hc, if_pos (by have := al_kd (I, J) 2 7; rwa [hc] at this), e1]
    simp only [Option.bind_some, asV_n]
    rw [show sz (al s1 8 4) = c + 7 by show sz s1 + 1 = _; omega, if_pos (by have := al_kd (al s1 8 4) 1 17; rwa [show sz (al s1 8 4) = c + 7 by show sz s1 + 1 = _; omega] at this), e2]
    simp only [Option.bind_some, asV_n]
    rw [c1, if_pos (congrArg Prod.fst k2), e3]
    simp only [Option.bind_some, asV_n]
    rw [fR_ok 0 kh3, Option.bind_some, fI_ok 1 kh3, Option.bind_some, rh3, Option.bind_some, i3 1, hp]
    have es : stR (I3, J3) z (nI p) (some (c + 6)) = some (I3, J1) := by
      unfold stR
      rw [if_pos, show (nI p).toNatClampNeg = p from ix_nI (by omega), ← hJ1]
      refine ⟨by rw [show kd (I3, J3) z = 15 from congrArg Prod.fst kz]; decide, ?_, ?_⟩
      · rw [show ln (I3, J3) z = 20 from congrArg Prod.snd kz]
        exact inb_nI h1 (by decide)
      · have k8 : kd (I3, J3) (c + 6) = 8 := kw.2.1.k
        rw [show kd (I3, J3) z = 15 from congrArg Prod.fst kz]
        show (15 == 13 && kd (I3, J3) (c + 6) == 4 || 15 == 14 && kd (I3, J3) (c + 6) == 7 || 15 == 15 && kd (I3, J3) (c + 6) == 8) = true
        rw [k8]
        rfl
    rw [es, Option.bind_some, if_pos (show kd (I3, J1) (c + 6) = 8 from kw1.2.1.k), t_X8_copyFrom exO exH exW exN exM kw1.2.1 kw1.2.2.2.1 kw1.2.2.2.2 kw1.1 kw1.2.2.1 (by omega) (by omega) (by omega) (by omega) (by omega) (by omega) (by omega) (by omega) I3, Option.bind_some, asV_n, Option.bind_some]
    exact kp_tail hL1 _ ((ho 1).trans hp) ((ho 2).trans hq) h1 h2
  · rw [← hJ1]; exact c3
  · rw [← hJ1]; exact g3.2.1
  · rw [← hJ1]; exact (same x hx).2.1
  · intro k
    rw [← hJ1]
    show (if z = z ∧ k = p then _ else jR J3 z k) = _
    by_cases e : k = p
    · rw [if_pos ⟨rfl, e⟩, if_pos e]
    · rw [if_neg (fun q => e q.2), if_neg e]
      exact congrFun (same z d6).2.2.1 k
/-- the place kept last -/
def bkp (p : Nat) : Nat := if p = 0 then 19 else p - 1
theorem bk_lat {p : Nat} (h : p < 20) : (if nI p ≤ 0 then nI 20 - 1 else nI p - 1) = nI (bkp p) := by
  unfold bkp
  by_cases e : p = 0
  · subst e; rfl
  · rw [if_neg (by rw [i32_le, nI_toInt (by omega)]; exact fun h => e (by have : (0 : Int32).toInt = 0 := rfl; omega)), if_neg e]
    have : nI p = nI (p - 1) + 1 := by rw [nI_1, show p - 1 + 1 = p by omega]
    rw [this]
    exact Int32.add_sub_cancel _ _
theorem t_bringBack0 {J : MJ} {h z o p q : Nat} (hL : HisL J h z) (I : MI) (hp : I h 1 = nI p) (hq : I h 2 = nI 0) (h1 : p < 20) : M_X0_bringBack [mR (some h), mR (some o)] (I, J) = some (some (mI 0), (I, J)) := by
  rw [E_X0_bringBack]
  simp only [fI_ok 1 hL.1, fI_ok 2 hL.1, fR_ok 0 hL.1, hL.2.1, aln_ok hL.2.2 (by decide), Option.bind_some, hp, hq]
  rw [if_pos (show nI 0 = 0 from rfl), if_pos (show nI 0 = 0 from rfl)]
  split <;> simp
theorem t_bringBack {J : MJ} {h z o n m g y w p q a : Nat} (hL : HisL J h z) (hO : WorL J o n m g y) (hH : HanL J g) (hW : WksL J y w) (hN : NodL J n) (hM : MemL J m n) (hK : KwL J a) (hr : jR J z (bkp p) = some (a + 6)) (d1 : n + 6 ≤ a) (d2 : m + 12 ≤ a) (d3 : g < a) (d4 : w + 24 ≤ a) (d0 : n + 6 ≤ m ∨ m + 12 ≤ n) (dh : (h < n ∨ n + 6 ≤ h) ∧ (h < m ∨ m + 12 ≤ h) ∧ h ≠ g ∧ (h < w ∨ w + 24 ≤ h)) (I : MI) (hp : I h 1 = nI p) (hq : I h 2 = nI (q + 1)) (h1 : p < 20) (h2 : q < 20) : M_X0_bringBack [mR (some h), mR (some o)] (I, J) = some (some (mI 1), (up2 (up2 (h_X8_copyFrom I a (a + 7) (a + 19) (a + 21) n m g w) h 1 (nI (bkp p))) h 2 (nI q), J)) := by
  have hb : bkp p < 20 := by unfold bkp; split <;> omega
  have hlat := bk_lat h1
  have ho : ∀ k, h_X8_copyFrom I a (a + 7) (a + 19) (a + 21) n m g w h k = I h k := fun k => congrFun (h_copy_out I _ _ _ _ _ _ _ _ h dh.1 dh.2.1 dh.2.2.1 dh.2.2.2) k
  have nq : ¬ nI (q + 1) = 0 := fun e => by
    have := congrArg Int32.toInt e
    rw [nI_toInt (by omega)] at this
    have e0 : (0 : Int32).toInt = 0 := rfl
    omega
  have u2 : ∀ v, up2 (h_X8_copyFrom I a (a + 7) (a + 19) (a + 21) n m g w) h 1 v h 2 = nI (q + 1) := fun v => by
    show (if h = h ∧ 2 = 1 then _ else _) = _
    rw [if_neg (by simp), ho, hq]
  have eq1 : nI (q + 1) - 1 = nI q := by rw [← nI_1]; exact Int32.add_sub_cancel _ _
  have body : ∀ v : Int32, v = nI (bkp p) → (if nI (q + 1) = 0 then (if (0 : Int32) = 0 ∨ (0 : Int32) = 1 then some (some (mI 0), (I, J)) else none) else (if v < 0 then (if (0 : Int32) = 0 ∨ (0 : Int32) = 1 then some (some (mI 0), (I, J)) else none) else (if nI 20 ≤ v then (if (0 : Int32) = 0 ∨ (0 : Int32) = 1 then some (some (mI 0), (I, J)) else none) else (ldR (I, J) z v).bind fun v10 => (cR v10 ((if (0 : Int32) = 0 ∨ (0 : Int32) = 1 then some (some (mI 0), (I, J)) else none)) ((ldR (I, J) z v).bind fun v13 => (if kd (I, J) o = 8 then (M_X8_copyFrom [mR (some o), mR v13] (I, J)).bind fun u15 => (asV u15.1).bind fun _ => (wI u15.2 0 h 1 v).bind fun s16 => (fI s16 0 h 2).bind fun v17 => (wI s16 0 h 2 (v17 - 1)).bind fun s18 => (if (1 : Int32) = 0 ∨ (1 : Int32) = 1 then some (some (mI 1), s18) else none) else none)))))) = some (some (mI 1), (up2 (up2 (h_X8_copyFrom I a (a + 7) (a + 19) (a + 21) n m g w) h 1 (nI (bkp p))) h 2 (nI q), J)) := by
    intro v hv
    subst hv
    rw [if_neg nq, if_neg (nI_pos (by omega)), if_neg (nI_ge hb (by decide)), ldR_ok _ hL.2.2 (by decide) (inb_nI hb (by decide)), Option.bind_some, show (nI (bkp p)).toNatClampNeg = bkp p from ix_nI (by omega), hr, cR_s, Option.bind_some, if_pos (show kd (I, J) o = 8 from hO.k), t_X8_copyFrom hK.2.1 hK.2.2.2.1 hK.2.2.2.2 hK.1 hK.2.2.1 hO hH hW hN hM (by omega) (by omega) d0 (by omega) (by omega) (by omega) (by omega) (by omega) I]
    simp only [Option.bind_some, asV_n, wI_ok 1 _ hL.1, wI_ok 2 _ hL.1, fI_ok 2 hL.1, u2, eq1]
    simp
  rw [E_X0_bringBack]
  simp only [fI_ok 1 hL.1, fI_ok 2 hL.1, fR_ok 0 hL.1, hL.2.1, aln_ok hL.2.2 (by decide), Option.bind_some, hp, hq]
  by_cases e : nI p ≤ 0
  · rw [if_pos e] at hlat
    rw [if_pos e]
    exact body _ hlat
  · rw [if_neg e] at hlat
    rw [if_neg e]
    exact body _ hlat
end
section
/-! Traces, by hand. -/
def TrcL (J : MJ) (y n : Nat) : Prop := (jS J y).1 = 6 ∧ jR J y 0 = some (y + 25) ∧ jR J y 3 = some (y + 1) ∧ jR J y 4 = some (y + 13) ∧ jR J y 5 = some (y + 26) ∧ jR J y 6 = some (y + 64) ∧ jS J (y + 25) = (13, 12) ∧ (∀ k, k < 12 → jR J (y + 25) k = some (y + 65 + 2 * k) ∧ RouL J (y + 65 + 2 * k) 12) ∧ jS J (y + 26) = (16, 37) ∧ (∀ r, r < 37 → jR J (y + 26) r = some (y + 27 + r) ∧ jS J (y + 27 + r) = (11, 12)) ∧ jS J (y + 64) = (11, 37) ∧ MemL J (y + 1) n ∧ MemL J (y + 13) n ∧ NodL J n ∧ n + 6 ≤ y
theorem TrcL.k {J : MJ} {y n : Nat} (h : TrcL J y n) : (jS J y).1 = 6 := h.1
theorem TrcL.r0 {J : MJ} {y n : Nat} (h : TrcL J y n) : jR J y 0 = some (y + 25) := h.2.1
theorem TrcL.r3 {J : MJ} {y n : Nat} (h : TrcL J y n) : jR J y 3 = some (y + 1) := h.2.2.1
theorem TrcL.r4 {J : MJ} {y n : Nat} (h : TrcL J y n) : jR J y 4 = some (y + 13) := h.2.2.2.1
theorem TrcL.r5 {J : MJ} {y n : Nat} (h : TrcL J y n) : jR J y 5 = some (y + 26) := h.2.2.2.2.1
theorem TrcL.r6 {J : MJ} {y n : Nat} (h : TrcL J y n) : jR J y 6 = some (y + 64) := h.2.2.2.2.2.1
theorem TrcL.s0 {J : MJ} {y n : Nat} (h : TrcL J y n) : jS J (y + 25) = (13, 12) := h.2.2.2.2.2.2.1
theorem TrcL.q {J : MJ} {y n : Nat} (h : TrcL J y n) {k : Nat} (hk : k < 12) : jR J (y + 25) k = some (y + 65 + 2 * k) ∧ RouL J (y + 65 + 2 * k) 12 := h.2.2.2.2.2.2.2.1 k hk
theorem TrcL.s5 {J : MJ} {y n : Nat} (h : TrcL J y n) : jS J (y + 26) = (16, 37) := h.2.2.2.2.2.2.2.2.1
theorem TrcL.g {J : MJ} {y n : Nat} (h : TrcL J y n) {r : Nat} (hr : r < 37) : jR J (y + 26) r = some (y + 27 + r) ∧ jS J (y + 27 + r) = (11, 12) := h.2.2.2.2.2.2.2.2.2.1 r hr
theorem TrcL.s6 {J : MJ} {y n : Nat} (h : TrcL J y n) : jS J (y + 64) = (11, 37) := h.2.2.2.2.2.2.2.2.2.2.1
theorem TrcL.b {J : MJ} {y n : Nat} (h : TrcL J y n) : MemL J (y + 1) n := h.2.2.2.2.2.2.2.2.2.2.2.1
theorem TrcL.t {J : MJ} {y n : Nat} (h : TrcL J y n) : MemL J (y + 13) n := h.2.2.2.2.2.2.2.2.2.2.2.2.1
theorem TrcL.n {J : MJ} {y n : Nat} (h : TrcL J y n) : NodL J n := h.2.2.2.2.2.2.2.2.2.2.2.2.2.1
theorem TrcL.d {J : MJ} {y n : Nat} (h : TrcL J y n) : n + 6 ≤ y := h.2.2.2.2.2.2.2.2.2.2.2.2.2.2
theorem TrcL.lq {J : MJ} {y n : Nat} (h : TrcL J y n) (I : MI) {k : Nat} (hk : k < 12) : ldR (I, J) (y + 25) (nI k) = some (some (y + 65 + 2 * k)) := by
  rw [ldR_ok _ h.s0 (by decide) (inb_nI hk (by decide)), show (nI k).toNatClampNeg = k from ix_nI (by omega)]
  exact congrArg some (h.q hk).1
theorem TrcL.lg {J : MJ} {y n : Nat} (h : TrcL J y n) (I : MI) {k : Nat} (hk : k < 37) : ldR (I, J) (y + 26) (nI k) = some (some (y + 27 + k)) := by
  rw [ldR_ok _ h.s5 (by decide) (inb_nI hk (by decide)), show (nI k).toNatClampNeg = k from ix_nI (by omega)]
  exact congrArg some (h.g hk).1
theorem TrcL.lt {J : MJ} {y n : Nat} (h : TrcL J y n) (I : MI) {k : Nat} (hk : k < 37) : ld (I, J) 11 (y + 64) (nI k) = some (I (y + 64) k) := by
  rw [ld_ok _ h.s6 (inb_nI hk (by decide)), show (nI k).toNatClampNeg = k from ix_nI (by omega)]
theorem TrcL.ll {J : MJ} {y n : Nat} (h : TrcL J y n) (I : MI) {r k : Nat} (hr : r < 37) (hk : k < 12) : ld (I, J) 11 (y + 27 + r) (nI k) = some (I (y + 27 + r) k) := by
  rw [ld_ok _ (h.g hr).2 (inb_nI hk (by decide)), show (nI k).toNatClampNeg = k from ix_nI (by omega)]
theorem t_X6_forget {J : MJ} {y n : Nat} (h : TrcL J y n) (I : MI) : M_X6_forget [mR (some y)] (I, J) = some (none, (up2 (up2 I y 1 0) y 2 (-1), J)) := by
  rw [E_X6_forget, wI_ok 1 _ h.k, Option.bind_some, wI_ok 2 _ h.k, Option.bind_some]
/-- whether row r fits -/
def fitB (I : MI) (y r : Nat) : Bool := decide (I y 2 = -1 ∨ I (y + 64) r = I y 2)
theorem t_X6_isFit {J : MJ} {y n : Nat} (h : TrcL J y n) (I : MI) {r : Nat} (hr : r < 37) : M_X6_isFit [mR (some y), mI (nI r)] (I, J) = some (some (mI (if fitB I y r = true then 1 else 0)), (I, J)) := by
  rw [E_X6_isFit, if_neg (nI_pos (by omega)), if_neg (show ¬ (37 : Int32) ≤ nI r from nI_ge hr (by decide))]
  simp only [fI_ok 2 h.k, fR_ok 6 h.k, h.r6, h.lt I hr, Option.bind_some]
  unfold fitB
  by_cases a : I y 2 = -1
  · simp [a]
  · by_cases b : I (y + 64) r = I y 2
    · simp [a, b]
    · simp [a, b]
def f_leastRoom (I : MI) (y : Nat) (x1 : Int32) : Option Nat := fst? (fun k => decide (¬ x1 < I (y + 64) k)) 0 37
def q_X6_leastRoom (I : MI) (y : Nat) (x1 : Int32) : Int32 := match f_leastRoom I y x1 with
  | some k => nI (4 + k)
  | none => -1
theorem nI_4 (k : Nat) : 4 + nI k = nI (4 + k) := by
  show Int32.ofNat 4 + Int32.ofNat k = Int32.ofNat (4 + k)
  rw [Int32.ofNat_add]
theorem t_X6_leastRoom {J : MJ} {y n : Nat} (h : TrcL J y n) (I : MI) (x1 : Int32) : M_X6_leastRoom [mR (some y), mI x1] (I, J) = some (some (mI (q_X6_leastRoom I y x1)), (I, J)) := by
  rw [E_X6_leastRoom]
  have step := loop_find (fun k => Ev T_X6_leastRoom 2 [some (mR (some y)), some (mI x1), some (mI (nI k))] [] (I, J)) (fun k => decide (¬ x1 < I (y + 64) k)) (fun k => some (some (mI (nI (4 + k))), (I, J))) 37 (fun k hk => by
    try dsimp only
    rw [E_X6_leastRoom_2, if_neg (show ¬ (37 : Int32) ≤ nI k from nI_ge hk (by decide))]
    simp only [fR_ok 6 h.k, h.r6, h.lt I hk, Option.bind_some, nI_1, nI_4]
    by_cases c : x1 < I (y + 64) k
    · simp [c]
    · simp [c]) 37 0 (by omega)
  try dsimp only at step
  rw [show (nI 0) = 0 from rfl] at step
  rw [step]
  unfold q_X6_leastRoom f_leastRoom
  cases fst? (fun k => decide (¬ x1 < I (y + 64) k)) 0 37 with
  | none =>
    show Ev T_X6_leastRoom 2 _ [] (I, J) = _
    rw [E_X6_leastRoom_2, if_pos (show (37 : Int32) ≤ nI 37 by decide)]
  | some j => rfl
def lp_fitting (I : MI) (y : Nat) (x1 : Int32) : Nat → Nat → Int32 → Int32
  | 0, _, x2 => if x1 = -1 then x2 else -1
  | f + 1, k, x2 => if fitB I y k = true then (if x2 = x1 then nI (4 + k) else lp_fitting I y x1 f (k + 1) (x2 + 1)) else lp_fitting I y x1 f (k + 1) x2
theorem lr_fitting {J : MJ} {y n : Nat} (h : TrcL J y n) (I : MI) (x1 : Int32) : ∀ (f k : Nat) (x2 : Int32), k + f = 37 → Ev T_X6_fitting 4 [some (mR (some y)), some (mI x1), some (mI x2), some (mI (nI k))] [] (I, J) = some (some (mI (lp_fitting I y x1 f k x2)), (I, J)) := by
  intro f
  induction f with
  | zero =>
    intro k x2 hk
    have hk : k = 37 := by omega
    subst hk
    rw [E_X6_fitting_4, if_pos (show (37 : Int32) ≤ nI 37 by decide)]
    unfold lp_fitting
    split <;> rfl
  | succ f ih =>
    intro k x2 hk
    rw [E_X6_fitting_4, if_neg (show ¬ (37 : Int32) ≤ nI k from nI_ge (show k < 37 by omega) (by decide)), if_pos (show kd (I, J) y = 6 from h.k), t_X6_isFit h I (by omega)]
    simp only [Option.bind_some, asI_I, nI_1, nI_4]
    unfold lp_fitting
    by_cases c : fitB I y k = true
    · simp only [if_pos c]
      rw [if_neg (show ¬ (1 : Int32) = 0 by decide)]
      by_cases d : x2 = x1
      · simp only [if_pos d]
      · simp only [if_neg d]
        exact ih (k + 1) _ (by omega)
    · simp only [if_neg c]
      rw [if_pos trivial]
      exact ih (k + 1) _ (by omega)
theorem t_X6_fitting {J : MJ} {y n : Nat} (h : TrcL J y n) (I : MI) (x1 : Int32) : M_X6_fitting [mR (some y), mI x1] (I, J) = some (some (mI (lp_fitting I y x1 37 0 0)), (I, J)) := by
  rw [E_X6_fitting]
  exact lr_fitting h I x1 37 0 0 rfl
def alike (I : MI) (y p r : Nat) : Nat := cnt (fun k => fitB I y k && decide (I (y + 27 + k) p = I (y + 27 + r) p)) 0 37
theorem t_X6_alikeFits {J : MJ} {y n : Nat} (h : TrcL J y n) (I : MI) {p r : Nat} (hp : p < 12) (hr : r < 37) : M_X6_alikeFits [mR (some y), mI (nI p), mI (nI r)] (I, J) = some (some (mI (nI (alike I y p r))), (I, J)) := by
  rw [E_X6_alikeFits, if_neg (nI_pos (by omega)), if_neg (show ¬ (12 : Int32) ≤ nI p from nI_ge hp (by decide)), if_neg (nI_pos (by omega)), if_pos (show nI r < 37 from Int32.not_le.mp (nI_ge hr (by decide)))]
  have step := loop_cnt (fun k c => Ev T_X6_alikeFits 27 [some (mR (some y)), some (mI (nI p)), some (mI (nI r)), some (mI (nI c)), some (mI (nI k))] [] (I, J)) (fun k => fitB I y k && decide (I (y + 27 + k) p = I (y + 27 + r) p)) 37 (fun k c hk => by
    try dsimp only
    rw [E_X6_alikeFits_27, if_neg (show ¬ (37 : Int32) ≤ nI k from nI_ge hk (by decide)), if_pos (show kd (I, J) y = 6 from h.k), t_X6_isFit h I hk]
    simp only [Option.bind_some, asI_I, nI_1, fR_ok 5 h.k, h.r5, h.lg I hk, h.lg I hr, h.ll I hk hp, h.ll I hr hp]
    by_cases a : fitB I y k = true
    · by_cases b : I (y + 27 + k) p = I (y + 27 + r) p
      · simp [a, b]
      · simp [a, b]
    · simp [a]) 37 0 0 (by omega)
  try dsimp only at step
  rw [show (nI 0) = 0 from rfl] at step
  rw [step, E_X6_alikeFits_27, if_pos (show (37 : Int32) ≤ nI 37 by decide), Nat.zero_add]
  rfl
def lp_mostLeft (I : MI) (y p : Nat) : Nat → Nat → Nat → Nat
  | 0, _, m => m
  | f + 1, k, m => lp_mostLeft I y p f (k + 1) (if fitB I y k = true then max m (alike I y p k) else m)
def mostL (I : MI) (y p : Nat) : Nat := lp_mostLeft I y p 37 0 0
theorem alike_le (I : MI) (y p r : Nat) : alike I y p r ≤ 37 := by
  have : ∀ (P : Nat → Bool) (n k : Nat), cnt P k n ≤ n := by
    intro P n
    induction n with
    | zero => intro k; exact Nat.le_refl _
    | succ n ih =>
      intro k
      unfold cnt
      have := ih (k + 1)
      split <;> omega
  exact this _ 37 0
theorem lr_mostLeft {J : MJ} {y n : Nat} (h : TrcL J y n) (I : MI) {p : Nat} (hp : p < 12) : ∀ (f k m : Nat), k + f = 37 → m ≤ 37 → Ev T_X6_mostLeft 4 [some (mR (some y)), some (mI (nI p)), some (mI (nI m)), some (mI (nI k))] [] (I, J) = some (some (mI (nI (lp_mostLeft I y p f k m))), (I, J)) := by
  intro f
  induction f with
  | zero =>
    intro k m hk hm
    have hk : k = 37 := by omega
    subst hk
    rw [E_X6_mostLeft_4, if_pos (show (37 : Int32) ≤ nI 37 by decide)]
    rfl
  | succ f ih =>
    intro k m hk hm
    rw [E_X6_mostLeft_4, if_neg (show ¬ (37 : Int32) ≤ nI k from nI_ge (show k < 37 by omega) (by decide)), if_pos (show kd (I, J) y = 6 from h.k), t_X6_isFit h I (by omega)]
    simp only [Option.bind_some, asI_I, nI_1]
    unfold lp_mostLeft
    by_cases c : fitB I y k = true
    · simp only [if_pos c]
      rw [if_neg (show ¬ (1 : Int32) = 0 by decide), if_pos (show kd (I, J) y = 6 from h.k), t_X6_alikeFits h I hp (show k < 37 by omega)]
      simp only [Option.bind_some, asI_I]
      have ha := alike_le I y p k
      have e : (if nI m < nI (alike I y p k) then nI (alike I y p k) else nI m) = nI (max m (alike I y p k)) := by
        by_cases d : m < alike I y p k
        · rw [if_pos (by rw [i32_lt, nI_toInt (by omega), nI_toInt (by omega)]; omega), show max m (alike I y p k) = alike I y p k by omega]
        · rw [if_neg (by rw [i32_lt, nI_toInt (by omega), nI_toInt (by omega)]; omega), show max m (alike I y p k) = m by omega]
      rw [e]
      exact ih (k + 1) _ (by omega) (by omega)
    · simp only [if_neg c]
      rw [if_pos trivial]
      exact ih (k + 1) _ (by omega) hm
theorem t_X6_mostLeft {J : MJ} {y n : Nat} (h : TrcL J y n) (I : MI) {p : Nat} (hp : p < 12) : M_X6_mostLeft [mR (some y), mI (nI p)] (I, J) = some (some (mI (nI (mostL I y p))), (I, J)) := by
  rw [E_X6_mostLeft]
  exact lr_mostLeft h I hp 37 0 0 rfl (by omega)
end
section
/-! Traces, on. -/
/-- the telling path so far: (best, fewest) by places, best = 12 for none -/
def lp_telling (I : MI) (y L : Nat) : Nat → Nat → Int32 → Int32 → Int32 × Int32
  | 0, _, b, w => (b, w)
  | f + 1, k, b, w => if L ≤ k then (b, w) else if mostL I y k = 0 then lp_telling I y L f (k + 1) b w else if w ≤ nI (mostL I y k) then lp_telling I y L f (k + 1) b w else lp_telling I y L f (k + 1) (nI k) (nI (mostL I y k))
theorem mostL_le (I : MI) (y p : Nat) : mostL I y p ≤ 37 := by
  have : ∀ f k m, m ≤ 37 → lp_mostLeft I y p f k m ≤ 37 := by
    intro f
    induction f with
    | zero => intro k m h; exact h
    | succ f ih =>
      intro k m h
      apply ih
      have := alike_le I y p k
      split <;> omega
  exact this 37 0 0 (by omega)
def q_X6_telling (I : MI) (y L : Nat) (x1 : Int32) : Int32 := if (lp_telling I y L 12 0 (-1) 38).1 = -1 then (lp_telling I y L 12 0 (-1) 38).1 else if x1 = 0 then (lp_telling I y L 12 0 (-1) 38).1 else (lp_telling I y L 12 0 (-1) 38).2
theorem lr_telling {J : MJ} {y n L : Nat} (h : TrcL J y n) (I : MI) (hL : I y 1 = nI L) (hl : L ≤ 12) (x1 : Int32) : ∀ (f k : Nat) (b w : Int32), k + f = 12 → Ev T_X6_telling 8 [some (mR (some y)), some (mI x1), some (mI b), some (mI w), some (mI (nI k)), none] [] (I, J) = some (some (mI (if (lp_telling I y L f k b w).1 = -1 then (lp_telling I y L f k b w).1 else if x1 = 0 then (lp_telling I y L f k b w).1 else (lp_telling I y L f k b w).2)), (I, J)) := by
  have fin : ∀ b w : Int32, (if b = ((-1)) then some (some (mI b), (I, J)) else (if x1 = 0 then some (some (mI b), (I, J)) else some (some (mI w), (I, J)))) = some (some (mI (if b = -1 then b else if x1 = 0 then b else w)), (I, J)) := by
    intro b w
    by_cases a : b = -1
    · rw [if_pos a, if_pos a]
    · rw [if_neg a, if_neg a]
      by_cases c : x1 = 0
      · rw [if_pos c, if_pos c]
      · rw [if_neg c, if_neg c]
  intro f
  induction f with
  | zero =>
    intro k b w hk
    have hk : k = 12 := by omega
    subst hk
    rw [E_X6_telling_8, fI_ok 1 h.k, Option.bind_some, hL]
    by_cases e : nI L ≤ nI 12
    · rw [if_pos e, fin]; rfl
    · rw [if_neg e, if_pos (show (12 : Int32) ≤ nI 12 by decide), fin]; rfl
  | succ f ih =>
    intro k b w hk
    rw [E_X6_telling_8, fI_ok 1 h.k, Option.bind_some, hL]
    unfold lp_telling
    by_cases e : L ≤ k
    · rw [if_pos (by rw [i32_le, nI_toInt (by omega), nI_toInt (by omega)]; omega), fin]
      simp only [if_pos e]
    · rw [if_neg (by rw [i32_le, nI_toInt (by omega), nI_toInt (by omega)]; omega), if_neg (show ¬ (12 : Int32) ≤ nI k from nI_ge (show k < 12 by omega) (by decide)), if_pos (show kd (I, J) y = 6 from h.k), t_X6_mostLeft h I (by omega)]
      simp only [Option.bind_some, asI_I, nI_1, if_neg e]
      have hm := mostL_le I y k
      by_cases c : mostL I y k = 0
      · simp only [if_pos c]
        rw [c, if_pos (show nI 0 ≤ 0 by decide)]
        exact ih (k + 1) _ _ (by omega)
      · simp only [if_neg c]
        rw [if_neg (by rw [i32_le, nI_toInt (by omega)]; exact fun q => c (by have : (0 : Int32).toInt = 0 := rfl; omega))]
        by_cases d : w ≤ nI (mostL I y k)
        · simp only [if_pos d]
          exact ih (k + 1) _ _ (by omega)
        · simp only [if_neg d]
          exact ih (k + 1) _ _ (by omega)
theorem t_X6_telling {J : MJ} {y n L : Nat} (h : TrcL J y n) (I : MI) (hL : I y 1 = nI L) (hl : L ≤ 12) (x1 : Int32) : M_X6_telling [mR (some y), mI x1] (I, J) = some (some (mI (q_X6_telling I y L x1)), (I, J)) := by
  rw [E_X6_telling]
  exact lr_telling h I hL hl x1 12 0 (-1) 38 rfl
/-- the bare memory made ready -/
def prep (I : MI) (y m : Nat) : MI := pt I (y + 1) (gV_X1_keepMountsAlone (gV_X1_copyFrom (vw 12 I m) (vw 12 I (y + 1))))
theorem t_X6_prepare {J : MJ} {y n m k : Nat} (h : TrcL J y n) (hM : MemL J m k) (d : m + 12 ≤ y) (I : MI) : M_X6_prepare [mR (some y), mR (some m)] (I, J) = some (none, (prep I y m, J)) := by
  rw [E_X6_prepare, fR_ok 3 h.k, Option.bind_some, h.r3, Option.bind_some, if_pos (show kd (I, J) (y + 1) = 1 from h.b.k), t_X1_copyFrom hM h.b (by omega) I]
  simp only [Option.bind_some, asV_n, fR_ok 3 h.k, h.r3]
  rw [if_pos (show kd (pt I (y + 1) (gV_X1_copyFrom (vw 12 I m) (vw 12 I (y + 1))), J) (y + 1) = 1 from h.b.k), t_X1_keepMountsAlone h.b, vw_pt, pt_pt]
  rfl
/-- one path of the trace by the room of row r -/
def rstep (y n r p : Nat) (I : MI) : MI := up2 (pt I (y + 13) (gV_X1_walk 12 (vw 2 I (y + 65 + 2 * p)) (vw 6 I n) (vw 12 I (y + 13)) (I (y + 65 + 2 * p) 1))) (y + 27 + r) p (gV_X1_walk 12 (vw 2 I (y + 65 + 2 * p)) (vw 6 I n) (vw 12 I (y + 13)) (I (y + 65 + 2 * p) 1) 0 13 - I (y + 13) 13)
def rrun (I : MI) (y n r L : Nat) : MI := itr (fun p I => rstep y n r p I) 0 L (pt I (y + 13) (uv (gV_X1_copyFrom (vw 12 I (y + 1)) (vw 12 I (y + 13))) 0 11 (nI (4 + r))))
def rI (I : MI) (y n r L : Nat) : MI := up2 (rrun I y n r L) (y + 64) r (rrun I y n r L (y + 13) 13 - gV_X1_copyFrom (vw 12 I (y + 1)) (vw 12 I (y + 13)) 0 13)
theorem rstep_out (y n r p : Nat) (I : MI) (x : Nat) (h1 : x < y + 13 ∨ y + 25 ≤ x) (h2 : x ≠ y + 27 + r) : rstep y n r p I x = I x := by
  unfold rstep
  funext j
  show (if x = y + 27 + r ∧ j = p then _ else _) = _
  rw [if_neg (fun q => h2 q.1), pt_out (x := x) (by omega)]
theorem rrun_out (I : MI) (y n r L : Nat) (x : Nat) (h1 : x < y + 13 ∨ y + 25 ≤ x) (h2 : x ≠ y + 27 + r) : rrun I y n r L x = I x := by
  have : ∀ (f k : Nat) (I : MI), itr (fun p I => rstep y n r p I) k f I x = I x := by
    intro f
    induction f with
    | zero => intro k I; rfl
    | succ f ih =>
      intro k I
      show itr (fun p I => rstep y n r p I) (k + 1) f (rstep y n r k I) x = _
      rw [ih, rstep_out _ _ _ _ _ _ h1 h2]
  unfold rrun
  rw [this, pt_out (x := x) (by omega)]
theorem t_X6_runBy {J : MJ} {y n L r : Nat} (h : TrcL J y n) (I : MI) (hL : I y 1 = nI L) (hl : L ≤ 12) (hr : r < 37) : M_X6_runBy [mR (some y), mI (nI r)] (I, J) = some (some (mI (if rI I y n r L (y + 13) 14 ≤ I (y + 1) 14 then 0 else 1)), (rI I y n r L, J)) := by
  have hd := h.d
  rw [E_X6_runBy, if_neg (nI_pos (by omega)), if_pos (show nI r < 37 from Int32.not_le.mp (nI_ge hr (by decide)))]
  simp only [fR_ok 4 h.k, fR_ok 3 h.k, h.r4, h.r3, Option.bind_some]
  rw [if_pos (show kd (I, J) (y + 13) = 1 from h.t.k), t_X1_copyFrom h.b h.t (by omega) I]
  simp only [Option.bind_some, asV_n, fR_ok 4 h.k, h.r4, wI_ok 11 _ h.t.k, fI_ok 13 h.t.k, nI_4]
  rw [show up2 (pt I (y + 13) (gV_X1_copyFrom (vw 12 I (y + 1)) (vw 12 I (y + 13)))) (y + 13) 11 (nI (4 + r)) = pt I (y + 13) (uv (gV_X1_copyFrom (vw 12 I (y + 1)) (vw 12 I (y + 13))) 0 11 (nI (4 + r))) from u12_0, p12_0, uv_n _ _ _ _ _ _ (by decide)]
  generalize hx2 : gV_X1_copyFrom (vw 12 I (y + 1)) (vw 12 I (y + 13)) 0 13 = x2
  have step := loop_all (fun p I' => Ev T_X6_runBy 43 [some (mR (some y)), some (mI (nI r)), some (mI x2), some (mI (nI p)), none, none] [] (if I' y 1 = nI L then I' else I', J)) (fun p I' => if I' y 1 = nI L then rstep y n r p I' else I') L
  have step2 : ∀ (f k : Nat) (I' : MI), k + f = L → I' y 1 = nI L → Ev T_X6_runBy 43 [some (mR (some y)), some (mI (nI r)), some (mI x2), some (mI (nI k)), none, none] [] (I', J) = Ev T_X6_runBy 43 [some (mR (some y)), some (mI (nI r)), some (mI x2), some (mI (nI L)), none, none] [] (itr (fun p I => rstep y n r p I) k f I', J) := by
    intro f
    induction f with
    | zero =>
      intro k I' hk hI
      rw [show k = L by omega]
      rfl
    | succ f ih =>
      intro k I' hk hI
      have hk12 : k < 12 := by omega
      rw [E_X6_runBy_43, fI_ok 1 h.k, Option.bind_some, hI, if_neg (by rw [i32_le, nI_toInt (by omega), nI_toInt (by omega)]; omega)]
      simp only [fR_ok 0 h.k, h.r0, Option.bind_some, aln_ok h.s0 (by decide)]
      rw [if_neg (show ¬ nI 12 ≤ nI k from nI_ge hk12 (by decide))]
      simp only [h.lq I' hk12, fR_ok 4 h.k, h.r4, Option.bind_some, fI_ok 13 h.t.k, cR_s, fI_ok 1 (h.q hk12).2.k]
      rw [if_pos (show kd (I', J) (y + 13) = 1 from h.t.k), t_X1_walk (h.q hk12).2 h.n h.t (by omega) (by omega) (by omega) I']
      simp only [Option.bind_some, asI_I, fR_ok 5 h.k, h.r5, h.lg _ hr, fR_ok 4 h.k, h.r4, fI_ok 13 h.t.k]
      rw [p12_0, st_ok _ _ (h.g hr).2 (inb_nI hk12 (by decide)), Option.bind_some, show (nI k).toNatClampNeg = k from ix_nI (by omega), nI_1]
      have hq := ih (k + 1) (rstep y n r k I') (by omega) (by rw [rstep_out _ _ _ _ _ _ (by omega) (by omega)]; exact hI)
      exact hq
  have hb : (pt I (y + 13) (uv (gV_X1_copyFrom (vw 12 I (y + 1)) (vw 12 I (y + 13))) 0 11 (nI (4 + r)))) y 1 = nI L := by
    rw [pt_out (x := y) (by omega)]
    exact hL
  have run := step2 L 0 _ (by omega) hb
  rw [show (nI 0) = 0 from rfl] at run
  rw [run]
  show Ev T_X6_runBy 43 _ [] (rrun I y n r L, J) = _
  have hy : rrun I y n r L y = I y := rrun_out _ _ _ _ _ _ (by omega) (by omega)
  rw [E_X6_runBy_43, fI_ok 1 h.k, Option.bind_some, hy, hL, if_pos (Int32.le_refl _)]
  simp only [fR_ok 6 h.k, h.r6, fR_ok 4 h.k, h.r4, Option.bind_some, fI_ok 13 h.t.k, st_ok _ _ h.s6 (inb_nI hr (by decide)), fI_ok 14 h.t.k, fR_ok 3 h.k, h.r3, fI_ok 14 h.b.k]
  rw [show (nI r).toNatClampNeg = r from ix_nI (by omega), ← hx2]
  show (if (rI I y n r L) (y + 13) 14 ≤ (rI I y n r L) (y + 1) 14 then _ else _) = _
  have e1 : (rI I y n r L) (y + 1) 14 = I (y + 1) 14 := by
    unfold rI
    show (if y + 1 = y + 64 ∧ _ then _ else rrun I y n r L (y + 1) 14) = _
    rw [if_neg (by omega), rrun_out _ _ _ _ _ _ (by omega) (by omega)]
  rw [e1]
  by_cases c : rI I y n r L (y + 13) 14 ≤ I (y + 1) 14
  · simp only [if_pos c]
    simp [rI]
  · simp only [if_neg c]
    simp [rI]
end
section
/-! Traces: all rooms; a trace taken. -/
/-- a row as the one before -/
def ccp (y r : Nat) (I : MI) : MI := up2 (fun x j => if x = y + 27 + r ∧ j < 12 then I (y + 27 + (r - 1)) j else I x j) (y + 64) r (I (y + 64) (r - 1))
def astep (y n L r : Nat) (s : Int32 × MI) : Int32 × MI := if s.1 = 0 ∧ r ≠ 0 then (s.1, ccp y r s.2) else (if rI s.2 y n r L (y + 13) 14 ≤ s.2 (y + 1) 14 then 0 else 1, rI s.2 y n r L)
theorem rI_out (I : MI) (y n r L : Nat) (x : Nat) (h1 : x < y + 13 ∨ y + 25 ≤ x) (h2 : x ≠ y + 27 + r) (h3 : x ≠ y + 64) : rI I y n r L x = I x := by
  unfold rI
  funext j
  show (if x = y + 64 ∧ _ then _ else rrun I y n r L x j) = _
  rw [if_neg (fun q => h3 q.1), rrun_out _ _ _ _ _ _ h1 h2]
theorem astep_out (y n L r : Nat) (s : Int32 × MI) (x : Nat) (h1 : x < y + 13 ∨ y + 25 ≤ x) (h2 : x ≠ y + 27 + r) (h3 : x ≠ y + 64) : (astep y n L r s).2 x = s.2 x := by
  unfold astep
  split
  · funext j
    show (if x = y + 64 ∧ j = r then _ else if x = y + 27 + r ∧ j < 12 then _ else _) = _
    rw [if_neg (fun q => h3 q.1), if_neg (fun q => h2 q.1)]
  · exact rI_out _ _ _ _ _ _ h1 h2 h3
def rall (I : MI) (y n L : Nat) : Int32 × MI := itr (fun r s => astep y n L r s) 0 37 (1, I)
theorem t_X6_runAll {J : MJ} {y n L m k : Nat} (h : TrcL J y n) (hM : MemL J m k) (d : m + 12 ≤ y) (I : MI) (hL : I y 1 = nI L) (hl : L ≤ 12) : M_X6_runAll [mR (some y), mR (some m)] (I, J) = if L = 0 then some (some (mI 0), (I, J)) else some (some (mI 1), ((rall (prep I y m) y n L).2, J)) := by
  have hd := h.d
  rw [E_X6_runAll, fI_ok 1 h.k, Option.bind_some, hL]
  by_cases e : L = 0
  · rw [if_pos e, e, if_pos (show nI 0 = 0 from rfl)]
    simp
  · rw [if_neg e, if_neg (fun q => by
      have := congrArg Int32.toInt q
      rw [nI_toInt (by omega)] at this
      have e0 : (0 : Int32).toInt = 0 := rfl
      omega), if_pos (show kd (I, J) y = 6 from h.k), t_X6_prepare h hM d I]
    simp only [Option.bind_some, asV_n]
    have step2 : ∀ (f r : Nat) (s : Int32 × MI), r + f = 37 → s.2 y 1 = nI L → Ev T_X6_runAll 18 [some (mR (some y)), none, some (mI s.1), some (mI (nI r))] [] (s.2, J) = Ev T_X6_runAll 18 [some (mR (some y)), none, some (mI (itr (fun r s => astep y n L r s) r f s).1), some (mI (nI 37))] [] ((itr (fun r s => astep y n L r s) r f s).2, J) := by
      intro f
      induction f with
      | zero =>
        intro r s hr hs
        rw [show r = 37 by omega]
        rfl
      | succ f ih =>
        intro r s hr hs
        have hr37 : r < 37 := by omega
        have hz : nI r = 0 ↔ r = 0 := ⟨fun q => by
          have := congrArg Int32.toInt q
          rw [nI_toInt (by omega)] at this
          have e0 : (0 : Int32).toInt = 0 := rfl
          omega, fun q => by rw [q]; rfl⟩
        have nxt := ih (r + 1) (astep y n L r s) (by omega) (by rw [astep_out _ _ _ _ _ _ (by omega) (by omega) (by omega)]; exact hs)
        have goalR : itr (fun r s => astep y n L r s) r (f + 1) s = itr (fun r s => astep y n L r s) (r + 1) f (astep y n L r s) := rfl
        rw [goalR, ← nxt, E_X6_runAll_18, if_neg (show ¬ (37 : Int32) ≤ nI r from nI_ge hr37 (by decide))]
        obtain ⟨t, I'⟩ := s
        have runs : ∀ (hh : ¬ (t = 0 ∧ r ≠ 0)), ((M_X6_runBy [mR (some y), mI (nI r)] (I', J)).bind fun u18 => (asI u18.1).bind fun y19 => Ev T_X6_runAll 18 [some (mR (some y)), none, some (mI y19), some (mI (nI r + 1))] [] u18.2) = Ev T_X6_runAll 18 [some (mR (some y)), none, some (mI (astep y n L r (t, I')).1), some (mI (nI (r + 1)))] [] ((astep y n L r (t, I')).2, J) := by
          intro hh
          rw [t_X6_runBy h I' hs hl hr37]
          simp only [Option.bind_some, asI_I, nI_1]
          unfold astep
          rw [if_neg hh]
        by_cases a : t = 0
        · rw [if_pos a]
          by_cases b : r = 0
          · rw [if_pos (hz.mpr b), if_pos (show kd (I', J) y = 6 from h.k)]
            exact runs (fun q => q.2 b)
          · rw [if_neg (fun q => b (hz.mp q))]
            have e1 : nI r - 1 = nI (r - 1) := by
              have : nI r = nI (r - 1) + 1 := by rw [nI_1, show r - 1 + 1 = r by omega]
              rw [this]
              exact Int32.add_sub_cancel _ _
            have hr1 : r - 1 < 37 := by omega
            simp only [fR_ok 5 h.k, h.r5, Option.bind_some, e1, h.lg _ hr1, h.lg _ hr37]
            rw [cpy_ok (h.g hr1).2 (h.g hr37).2 (by decide) (by omega) 12 rfl]
            simp only [fR_ok 6 h.k, h.r6, Option.bind_some, h.lt _ hr1]
            rw [st_ok _ _ h.s6 (inb_nI hr37 (by decide)), Option.bind_some, show (nI r).toNatClampNeg = r from ix_nI (by omega), nI_1]
            have ea : astep y n L r (t, I') = (t, ccp y r I') := by
              unfold astep
              rw [if_pos ⟨a, b⟩]
            rw [ea]
            show Ev T_X6_runAll 18 [some (mR (some y)), none, some (mI t), some (mI (nI (r + 1)))] [] (up2 _ (y + 64) r (if y + 64 = y + 27 + r ∧ r - 1 < 12 then _ else I' (y + 64) (r - 1)), J) = _
            rw [if_neg (by omega)]
            rfl
        · rw [if_neg a, if_pos (show kd (I', J) y = 6 from h.k)]
          exact runs (fun q => a q.1)
    have hb : (prep I y m) y 1 = nI L := by
      unfold prep
      rw [pt_out (x := y) (by omega)]
      exact hL
    have run := step2 37 0 (1, prep I y m) rfl hb
    rw [show (nI 0) = 0 from rfl] at run
    show Ev T_X6_runAll 18 [some (mR (some y)), none, some (mI 1), some (mI 0)] [] (prep I y m, J) = _
    refine run.trans ?_
    rw [E_X6_runAll_18, if_pos (show (37 : Int32) ≤ nI 37 by decide)]
    simp [rall]
theorem t_X6_loadsBy {J : MJ} {y n L m k r : Nat} (h : TrcL J y n) (hM : MemL J m k) (d : m + 12 ≤ y) (I : MI) (hL : I y 1 = nI L) (hl : L ≤ 12) (hr : r < 37) : M_X6_loadsBy [mR (some y), mI (nI (4 + r)), mR (some m)] (I, J) = some (some (mI (rI (prep I y m) y n r L (y + 64) r)), (rI (prep I y m) y n r L, J)) := by
  have hd := h.d
  have e1 : nI (4 + r) - 4 = nI r := by
    rw [← nI_4, Int32.add_comm]
    exact Int32.add_sub_cancel _ _
  have hb : (prep I y m) y 1 = nI L := by
    unfold prep
    rw [pt_out (x := y) (by omega)]
    exact hL
  rw [E_X6_loadsBy, e1, if_neg (nI_pos (by omega)), if_pos (show nI r < 37 from Int32.not_le.mp (nI_ge hr (by decide))), if_pos (show kd (I, J) y = 6 from h.k), t_X6_prepare h hM d I]
  simp only [Option.bind_some, asV_n]
  rw [if_pos (show kd (prep I y m, J) y = 6 from h.k), t_X6_runBy h _ hb hl hr]
  simp only [Option.bind_some, asI_I, fR_ok 6 h.k, h.r6, h.lt _ hr]
/-- where the routes that were told lie -/
def rr (t k : Nat) : Nat := if k < 2 then t + 2 * k else t + 2 * k + 1
def TolL (J : MJ) (t : Nat) : Prop := jS J (t + 4) = (13, 12) ∧ ∀ k, k < 12 → jR J (t + 4) k = some (rr t k) ∧ RouL J (rr t k) 12
theorem TolL.l {J : MJ} {t : Nat} (h : TolL J t) (I : MI) {k : Nat} (hk : k < 12) : ldR (I, J) (t + 4) (nI k) = some (some (rr t k)) := by
  rw [ldR_ok _ h.1 (by decide) (inb_nI hk (by decide)), show (nI k).toNatClampNeg = k from ix_nI (by omega)]
  exact congrArg some (h.2 k hk).1
def bstep (y t k : Nat) (I : MI) : MI := up2 (pt I (y + 65 + 2 * k) (gP_X4_copyFrom 12 12 (vw 2 I (rr t k)) (vw 2 I (y + 65 + 2 * k)))) y 1 (I y 1 + 1)
def bcm (I : MI) (y t c : Nat) : MI := itr (fun k I => bstep y t k I) 0 c (up2 (up2 I y 1 0) y 2 (-1))
theorem t_X6_become {J : MJ} {y n t c : Nat} (h : TrcL J y n) (ht : TolL J t) (d : y + 89 ≤ t) (I : MI) (hc : c ≤ 12) : M_X6_become [mR (some y), mR (some (t + 4)), mI (nI c)] (I, J) = some (none, (bcm I y t c, J)) := by
  rw [E_X6_become, if_pos (show kd (I, J) y = 6 from h.k), t_X6_forget h I]
  simp only [Option.bind_some, asV_n]
  unfold bcm
  generalize up2 (up2 I y 1 0) y 2 (-1) = I0
  have step := loop_all (fun k I => Ev T_X6_become 6 [some (mR (some y)), some (mR (some (t + 4))), some (mI (nI c)), some (mI (nI k))] [] (I, J)) (fun k I => bstep y t k I) c I0 (fun k I hk => by
    have hk12 : k < 12 := by omega
    try dsimp only
    rw [E_X6_become_6, if_neg (nI_ge hk (by omega))]
    simp only [fR_ok 0 h.k, h.r0, Option.bind_some, aln_ok h.s0 (by decide), aln_ok ht.1 (by decide)]
    rw [if_neg (show ¬ nI 12 ≤ nI k from nI_ge hk12 (by decide)), if_neg (show ¬ nI 12 ≤ nI k from nI_ge hk12 (by decide))]
    simp only [h.lq I hk12, ht.l I hk12, Option.bind_some, cR_s]
    rw [if_pos (show kd (I, J) (y + 65 + 2 * k) = 4 from (h.q hk12).2.k), t_X4_copyFrom (ht.2 k hk12).2 (h.q hk12).2 (by unfold rr; split <;> omega) I]
    simp only [Option.bind_some, asV_n, fI_ok 1 h.k, wI_ok 1 _ h.k, nI_1]
    rw [pt_out (x := y) (by omega)]
    rfl)
  try dsimp only at step
  rw [show (nI 0) = 0 from rfl] at step
  rw [step, E_X6_become_6, if_pos (Int32.le_refl _)]
end
section
/-! The keeper's layout; its helpers. -/
def KL (J : MJ) : Prop := ((jS J 0).1 = 9 ∧ jR J 0 0 = some 7 ∧ jR J 0 1 = some 9 ∧ jR J 0 2 = some 16 ∧ jR J 0 3 = some 55 ∧ jR J 0 4 = some 67 ∧ jR J 0 5 = some 69 ∧ jR J 0 6 = some 158 ∧ jR J 0 7 = some 160 ∧ jR J 0 8 = some 162 ∧ jR J 0 9 = some 183 ∧ jR J 0 10 = some 185 ∧ jR J 0 12 = some 186 ∧ jR J 0 13 = some 187) ∧ (TapL J 7 ∧ RdrL J 9 10 ∧ NodL J 10 ∧ NodL J 1 ∧ WorL J 16 1 17 29 30 ∧ MemL J 17 1 ∧ HanL J 29 ∧ WksL J 30 31 ∧ MemL J 55 1 ∧ HisL J 67 68 ∧ TrcL J 69 1 ∧ TolL J 158 ∧ RouL J 183 60) ∧ jS J 185 = (11, 300) ∧ jS J 186 = (11, 6) ∧ jS J 187 = (11, 4)
theorem KL.k {J : MJ} (h : KL J) : (jS J 0).1 = 9 := h.1.1
theorem KL.r0 {J : MJ} (h : KL J) : jR J 0 0 = some 7 := h.1.2.1
theorem KL.r1 {J : MJ} (h : KL J) : jR J 0 1 = some 9 := h.1.2.2.1
theorem KL.r2 {J : MJ} (h : KL J) : jR J 0 2 = some 16 := h.1.2.2.2.1
theorem KL.r3 {J : MJ} (h : KL J) : jR J 0 3 = some 55 := h.1.2.2.2.2.1
theorem KL.r4 {J : MJ} (h : KL J) : jR J 0 4 = some 67 := h.1.2.2.2.2.2.1
theorem KL.r5 {J : MJ} (h : KL J) : jR J 0 5 = some 69 := h.1.2.2.2.2.2.2.1
theorem KL.r6 {J : MJ} (h : KL J) : jR J 0 6 = some 158 := h.1.2.2.2.2.2.2.2.1
theorem KL.r7 {J : MJ} (h : KL J) : jR J 0 7 = some 160 := h.1.2.2.2.2.2.2.2.2.1
theorem KL.r8 {J : MJ} (h : KL J) : jR J 0 8 = some 162 := h.1.2.2.2.2.2.2.2.2.2.1
theorem KL.r9 {J : MJ} (h : KL J) : jR J 0 9 = some 183 := h.1.2.2.2.2.2.2.2.2.2.2.1
theorem KL.r10 {J : MJ} (h : KL J) : jR J 0 10 = some 185 := h.1.2.2.2.2.2.2.2.2.2.2.2.1
theorem KL.r12 {J : MJ} (h : KL J) : jR J 0 12 = some 186 := h.1.2.2.2.2.2.2.2.2.2.2.2.2.1
theorem KL.r13 {J : MJ} (h : KL J) : jR J 0 13 = some 187 := h.1.2.2.2.2.2.2.2.2.2.2.2.2.2
theorem KL.tape {J : MJ} (h : KL J) : TapL J 7 := h.2.1.1
theorem KL.reader {J : MJ} (h : KL J) : RdrL J 9 10 := h.2.1.2.1
theorem KL.draft {J : MJ} (h : KL J) : NodL J 10 := h.2.1.2.2.1
theorem KL.nodes {J : MJ} (h : KL J) : NodL J 1 := h.2.1.2.2.2.1
theorem KL.world {J : MJ} (h : KL J) : WorL J 16 1 17 29 30 := h.2.1.2.2.2.2.1
theorem KL.mem {J : MJ} (h : KL J) : MemL J 17 1 := h.2.1.2.2.2.2.2.1
theorem KL.han {J : MJ} (h : KL J) : HanL J 29 := h.2.1.2.2.2.2.2.2.1
theorem KL.wks {J : MJ} (h : KL J) : WksL J 30 31 := h.2.1.2.2.2.2.2.2.2.1
theorem KL.trial {J : MJ} (h : KL J) : MemL J 55 1 := h.2.1.2.2.2.2.2.2.2.2.1
theorem KL.his {J : MJ} (h : KL J) : HisL J 67 68 := h.2.1.2.2.2.2.2.2.2.2.2.1
theorem KL.trc {J : MJ} (h : KL J) : TrcL J 69 1 := h.2.1.2.2.2.2.2.2.2.2.2.2.1
theorem KL.tol {J : MJ} (h : KL J) : TolL J 158 := h.2.1.2.2.2.2.2.2.2.2.2.2.2.1
theorem KL.long {J : MJ} (h : KL J) : RouL J 183 60 := h.2.1.2.2.2.2.2.2.2.2.2.2.2.2
theorem KL.wri {J : MJ} (h : KL J) : jS J 185 = (11, 300) := h.2.2.1
theorem KL.ref {J : MJ} (h : KL J) : jS J 186 = (11, 6) := h.2.2.2.1
theorem KL.out {J : MJ} (h : KL J) : jS J 187 = (11, 4) := h.2.2.2.2
theorem KL.fir {J : MJ} (h : KL J) : RouL J 158 12 := (h.tol.2 0 (by decide)).2
theorem KL.sec {J : MJ} (h : KL J) : RouL J 160 12 := (h.tol.2 1 (by decide)).2
/-- one refusal more -/
def rfz (I : MI) (k : Nat) : MI := up2 I 186 k (I 186 k + 1)
theorem u_refuse {J : MJ} (h : KL J) (I : MI) {k : Nat} (hk : k < 6) : M_X9_refuse [mR (some 0), mI (nI k)] (I, J) = some (some (mI (-1)), (rfz I k, J)) := by
  rw [E_X9_refuse, if_neg (nI_pos (by omega)), if_neg (show ¬ (6 : Int32) ≤ nI k from nI_ge hk (by decide))]
  simp only [fR_ok 12 h.k, h.r12, Option.bind_some, ld_ok _ h.ref (inb_nI hk (by decide)), st_ok _ _ h.ref (inb_nI hk (by decide))]
  rw [show (nI k).toNatClampNeg = k from ix_nI (by omega)]
  rfl
theorem u_refuseFlatly {J : MJ} (h : KL J) (I : MI) {k : Nat} (hk : k < 6) : M_X9_refuseFlatly [mR (some 0), mI (nI k)] (I, J) = some (some (mI 0), (rfz I k, J)) := by
  rw [E_X9_refuseFlatly, if_pos (show kd (I, J) 0 = 9 from h.k), u_refuse h I hk]
  simp [asI]
theorem u_orRefuse {J : MJ} (h : KL J) (I : MI) (x : Int32) {k : Nat} (hk : k < 6) : M_X9_orRefuse [mR (some 0), mI x, mI (nI k)] (I, J) = if 0 ≤ x then some (some (mI x), (I, J)) else some (some (mI (-1)), (rfz I k, J)) := by
  rw [E_X9_orRefuse]
  by_cases a : 0 ≤ x
  · rw [if_pos a, if_pos a]
  · rw [if_neg a, if_neg a, if_pos (show kd (I, J) 0 = 9 from h.k), u_refuse h I hk]
    rfl
theorem u_hasTrees {J : MJ} (h : KL J) (I : MI) : M_X9_hasTrees [mR (some 0)] (I, J) = some (some (mI (if I 1 6 ≤ 0 then 0 else 1)), (I, J)) := by
  rw [E_X9_hasTrees]
  simp only [fR_ok 2 h.k, h.r2, Option.bind_some, fR_ok 0 h.world.k, h.world.r0, fI_ok 6 h.nodes.k]
  by_cases a : I 1 6 ≤ 0
  · simp [a]
  · simp [a]
theorem u_isRoom (x : Int32) (s : MH) : M_X9_isRoom [mI x] s = some (some (mI (if x < 4 then 0 else if 40 < x then 0 else 1)), s) := by
  rw [E_X9_isRoom]
  by_cases a : x < 4
  · simp [a]
  · by_cases b : 40 < x
    · simp [a, b]
    · simp [a, b]
/-- the row of paths on the tape, from a place on -/
def lpRow (T : Nat) (Q : RouV) : Nat → Nat → Nat → Nat → MI → Int32 × MI
  | 0, _, c, _, I => (nI c, I)
  | f + 1, fr, c, pos, I => if pos < T ∧ ¬ q_X5_at Q (nI pos) = 32 then lpRow T Q f fr c (pos + 1) I else if 12 ≤ c then (-1, I) else if q_X4_readFrom 12 Q (vw 2 I (rr 158 c)) (nI fr) (nI pos) = 0 then (-1, pt I (rr 158 c) (gP_X4_readFrom 12 Q (vw 2 I (rr 158 c)) (nI fr) (nI pos))) else lpRow T Q f (pos + 1) (c + 1) (pos + 1) (pt I (rr 158 c) (gP_X4_readFrom 12 Q (vw 2 I (rr 158 c)) (nI fr) (nI pos)))
theorem lr_readRow {J : MJ} (h : KL J) {T : Nat} (hT : T ≤ 400) (Q : RouV) (hQ : Q 0 1 = nI T) : ∀ (f fr c pos : Nat) (I : MI), vw 2 I 7 = Q → pos + f = T + 1 → c ≤ 12 → Ev T_X9_readRow 7 [some (mR (some 7)), some (mR (some 162)), some (mI (nI fr)), some (mI (nI c)), some (mI (nI pos)), none] [] (I, J) = some (some (mI (lpRow T Q f fr c pos I).1), ((lpRow T Q f fr c pos I).2, J)) := by
  intro f
  induction f with
  | zero =>
    intro fr c pos I hI hp hc
    have hl : I 7 1 = nI T := by rw [← hQ, ← hI]; rfl
    rw [E_X9_readRow_7, fI_ok 1 h.tape.k, Option.bind_some, hl, if_pos (by rw [i32_lt, nI_toInt (by omega), nI_toInt (by omega)]; omega)]
    rfl
  | succ f ih =>
    intro fr c pos I hI hp hc
    have hl : I 7 1 = nI T := by rw [← hQ, ← hI]; rfl
    have body : ((aln (I, J) 162).bind fun v13 => (if v13 ≤ nI c then (cR none (some (some (mI ((-1))), (I, J))) (none.bind fun b15 => (if kd (I, J) b15 = 4 then (M_X4_readFrom [mR (some b15), mR (some 7), mI (nI fr), mI (nI pos)] (I, J)).bind fun u14 => (asI u14.1).bind fun y16 => (if y16 = 0 then some (some (mI ((-1))), u14.2) else Ev T_X9_readRow 7 [some (mR (some 7)), some (mR (some 162)), some (mI (nI pos + 1)), some (mI (nI c + 1)), some (mI (nI pos + 1)), none] [] u14.2) else none))) else (ldR (I, J) 162 (nI c)).bind fun v17 => (cR v17 (some (some (mI ((-1))), (I, J))) (v17.bind fun b19 => (if kd (I, J) b19 = 4 then (M_X4_readFrom [mR (some b19), mR (some 7), mI (nI fr), mI (nI pos)] (I, J)).bind fun u18 => (asI u18.1).bind fun y20 => (if y20 = 0 then some (some (mI ((-1))), u18.2) else Ev T_X9_readRow 7 [some (mR (some 7)), some (mR (some 162)), some (mI (nI pos + 1)), some (mI (nI c + 1)), some (mI (nI pos + 1)), none] [] u18.2) else none))))) = some (some (mI (if 12 ≤ c then ((-1 : Int32), I) else if q_X4_readFrom 12 Q (vw 2 I (rr 158 c)) (nI fr) (nI pos) = 0 then (-1, pt I (rr 158 c) (gP_X4_readFrom 12 Q (vw 2 I (rr 158 c)) (nI fr) (nI pos))) else lpRow T Q f (pos + 1) (c + 1) (pos + 1) (pt I (rr 158 c) (gP_X4_readFrom 12 Q (vw 2 I (rr 158 c)) (nI fr) (nI pos)))).1), ((if 12 ≤ c then ((-1 : Int32), I) else if q_X4_readFrom 12 Q (vw 2 I (rr 158 c)) (nI fr) (nI pos) = 0 then (-1, pt I (rr 158 c) (gP_X4_readFrom 12 Q (vw 2 I (rr 158 c)) (nI fr) (nI pos))) else lpRow T Q f (pos + 1) (c + 1) (pos + 1) (pt I (rr 158 c) (gP_X4_readFrom 12 Q (vw 2 I (rr 158 c)) (nI fr) (nI pos)))).2, J)) := by
      rw [aln_ok (a := 162) (n := 12) (d := 13) h.tol.1 (by decide), Option.bind_some]
      by_cases a : 12 ≤ c
      · rw [if_pos (by rw [i32_le, nI_toInt (by omega), nI_toInt (by omega)]; omega), cR_n]
        simp only [if_pos a]
      · have hc12 : c < 12 := by omega
        have d7 : 7 + 2 ≤ rr 158 c ∨ rr 158 c + 2 ≤ 7 := by unfold rr; split <;> omega
        rw [if_neg (by rw [i32_le, nI_toInt (by omega), nI_toInt (by omega)]; omega), show ldR (I, J) 162 (nI c) = some (some (rr 158 c)) from h.tol.l I hc12, Option.bind_some, cR_s, Option.bind_some, if_pos (show kd (I, J) (rr 158 c) = 4 from (h.tol.2 c hc12).2.k), t_X4_readFrom h.tape (h.tol.2 c hc12).2 d7 I, hI]
        simp only [Option.bind_some, asI_I, if_neg a, nI_1]
        by_cases b : q_X4_readFrom 12 Q (vw 2 I (rr 158 c)) (nI fr) (nI pos) = 0
        · simp only [if_pos b]
        · simp only [if_neg b]
          exact ih _ _ _ _ (by rw [vw_out I _ d7]; exact hI) (by omega) (by omega)
    rw [E_X9_readRow_7, fI_ok 1 h.tape.k, Option.bind_some, hl, if_neg (by rw [i32_lt, nI_toInt (by omega), nI_toInt (by omega)]; omega), Option.bind_some]
    unfold lpRow
    by_cases a : pos < T
    · rw [if_neg (by rw [i32_le, nI_toInt (by omega), nI_toInt (by omega)]; omega), if_pos (show kd (I, J) 7 = 5 from h.tape.k), t_X5_at h.tape I, hI]
      simp only [Option.bind_some, asI_I]
      by_cases b : q_X5_at Q (nI pos) = 32
      · rw [if_pos b, if_neg (fun q => q.2 b)]
        exact body
      · rw [if_neg b, if_pos ⟨a, b⟩, nI_1]
        exact ih _ _ _ _ hI (by omega) hc
    · rw [if_pos (by rw [i32_le, nI_toInt (by omega), nI_toInt (by omega)]; omega), if_neg (fun q => a q.1)]
      exact body
end
section
/-! The keeper's helpers, on. -/
def clr (I : MI) : MI := pt I 7 (gQ_X5_clear (vw 2 I 7))
def rowO (I : MI) (T : Nat) : Int32 × MI := if I 1 6 ≤ 0 then (-1, I) else lpRow T (vw 2 I 7) (T + 1) 0 0 0 I
theorem u_takeRow {J : MJ} (h : KL J) (I : MI) {T : Nat} (hT : T ≤ 400) (hl : I 7 1 = nI T) : M_X9_takeRow [mR (some 0)] (I, J) = some (some (mI (rowO I T).1), (clr (rowO I T).2, J)) := by
  rw [E_X9_takeRow, if_pos (show kd (I, J) 0 = 9 from h.k), u_hasTrees h I]
  simp only [Option.bind_some, asI_I]
  unfold rowO
  by_cases a : I 1 6 ≤ 0
  · simp only [if_pos a, fR_ok 0 h.k, h.r0, Option.bind_some]
    rw [if_pos trivial, if_pos (show kd (I, J) 7 = 5 from h.tape.k), t_X5_clear h.tape I]
    rfl
  · simp only [if_neg a]
    rw [if_neg (show ¬ (1 : Int32) = 0 by decide)]
    simp only [fR_ok 0 h.k, h.r0, fR_ok 8 h.k, h.r8, Option.bind_some]
    have e : M_X9_readRow [mR (some 7), mR (some 162)] (I, J) = some (some (mI (lpRow T (vw 2 I 7) (T + 1) 0 0 0 I).1), ((lpRow T (vw 2 I 7) (T + 1) 0 0 0 I).2, J)) := by
      rw [E_X9_readRow]
      exact lr_readRow h hT (vw 2 I 7) hl (T + 1) 0 0 0 I rfl (by omega) (by omega)
    rw [e]
    simp only [Option.bind_some, asI_I, fR_ok 0 h.k, h.r0]
    rw [if_pos (show kd ((lpRow T (vw 2 I 7) (T + 1) 0 0 0 I).2, J) 7 = 5 from h.tape.k), t_X5_clear h.tape]
    rfl
theorem u_takePaths {J : MJ} (h : KL J) (I : MI) {T : Nat} (hT : T ≤ 400) (hl : I 7 1 = nI T) (x : Int32) : M_X9_takePaths [mR (some 0), mI x] (I, J) = some (some (mI (if (rowO I T).1 = x then 1 else 0)), (clr (rowO I T).2, J)) := by
  rw [E_X9_takePaths, if_pos (show kd (I, J) 0 = 9 from h.k), u_takeRow h I hT hl]
  simp only [Option.bind_some, asI_I]
  by_cases a : (rowO I T).1 = x
  · simp [a]
  · simp [a]
/-- a walk in a copy -/
def tryV (I : MI) : MemV := gV_X1_walk 12 (vw 2 I 158) (vw 6 I 1) (gV_X1_copyFrom (vw 12 I 17) (vw 12 I 55)) (I 158 1)
def tryQ (I : MI) : Int32 := q_X1_walk 12 (vw 2 I 158) (vw 6 I 1) (gV_X1_copyFrom (vw 12 I 17) (vw 12 I 55)) (I 158 1)
theorem u_tryOut {J : MJ} (h : KL J) (I : MI) : M_X9_tryOut [mR (some 0), mR (some 158)] (I, J) = some (some (mI (tryQ I)), (pt I 55 (tryV I), J)) := by
  rw [E_X9_tryOut]
  simp only [fR_ok 3 h.k, h.r3, fR_ok 2 h.k, h.r2, Option.bind_some, fR_ok 1 h.world.k, h.world.r1]
  rw [if_pos (show kd (I, J) 55 = 1 from h.trial.k), t_X1_copyFrom h.mem h.trial (by decide) I]
  simp only [Option.bind_some, asV_n, fR_ok 3 h.k, h.r3, fI_ok 1 h.fir.k]
  rw [if_pos (show kd (pt I 55 (gV_X1_copyFrom (vw 12 I 17) (vw 12 I 55)), J) 55 = 1 from h.trial.k), t_X1_walk h.fir h.nodes h.trial (by decide) (by decide) (by decide), vw_pt, vw_out I _ (by decide), vw_out I _ (by decide), pt_pt, pt_out (x := 158) (by decide)]
  rfl
def tlo (I : MI) (w : Nat) (x : Int32) : MI := up2 (up2 (up2 (up2 (up2 I 0 14 1) 187 0 (if 0 ≤ x then q_X1_nodeOf (vw 12 I 17) x else x)) 187 1 (if 0 ≤ x then x else -1)) 187 2 (I w 7)) 187 3 (bz (I w 6))
theorem u_tellOutcome {J : MJ} (h : KL J) (I : MI) {w : Nat} (hw : (jS J w).1 = 7) (h0 : w ≠ 0) (h1 : w ≠ 187) (x : Int32) : M_X9_tellOutcome [mR (some 0), mR (some w), mI x] (I, J) = some (none, (tlo I w x, J)) := by
  have eI : ∀ {v0 v1 v2 v3 : Int32} {k : Nat}, up2 (up2 (up2 (up2 I 0 14 v0) 187 0 v1) 187 1 v2) 187 2 v3 w k = I w k := by
    intro v0 v1 v2 v3 k
    show (if w = 187 ∧ _ then _ else if w = 187 ∧ _ then _ else if w = 187 ∧ _ then _ else if w = 0 ∧ _ then _ else _) = _
    rw [if_neg (fun q => h1 q.1), if_neg (fun q => h1 q.1), if_neg (fun q => h1 q.1), if_neg (fun q => h0 q.1)]
  have eJ : ∀ {v0 v1 v2 : Int32} {k : Nat}, up2 (up2 (up2 I 0 14 v0) 187 0 v1) 187 1 v2 w k = I w k := by
    intro v0 v1 v2 k
    show (if w = 187 ∧ _ then _ else if w = 187 ∧ _ then _ else if w = 0 ∧ _ then _ else _) = _
    rw [if_neg (fun q => h1 q.1), if_neg (fun q => h1 q.1), if_neg (fun q => h0 q.1)]
  have eV : vw 12 (up2 I 0 14 1) 17 = vw 12 I 17 := by
    funext k j
    show (if 17 + k.val = 0 ∧ _ then _ else _) = _
    rw [if_neg (by omega)]
    rfl
  have e0 : Int32.toNatClampNeg 0 = 0 := rfl
  have e1 : Int32.toNatClampNeg 1 = 1 := rfl
  have e2 : Int32.toNatClampNeg 2 = 2 := rfl
  have e3 : Int32.toNatClampNeg 3 = 3 := rfl
  rw [E_X9_tellOutcome, wZ_ok 14 1 h.k (by decide), Option.bind_some, fR_ok 13 h.k, Option.bind_some]
  unfold tlo
  by_cases a : (0 : Int32) ≤ x
  · simp only [if_pos a, fR_ok 2 h.k, h.r2, h.r13, Option.bind_some, fR_ok 1 h.world.k, h.world.r1]
    rw [if_pos (show kd (up2 I 0 14 1, J) 17 = 1 from h.mem.k), t_X1_nodeOf h.mem, eV]
    simp only [Option.bind_some, asI_I, st_ok _ _ h.out (show inb 0 4 by decide), st_ok _ _ h.out (show inb 1 4 by decide), st_ok _ _ h.out (show inb 2 4 by decide), st_ok _ _ h.out (show inb 3 4 by decide), fR_ok 13 h.k, h.r13, fI_ok 7 hw, fZ_ok 6 hw, e0, e1, e2, e3, eI, eJ]
    by_cases b : bz (I w 6) = 0
    · simp [b]
    · have b1 : bz (I w 6) = 1 := (bz_or _).resolve_left b
      simp [b1]
  · simp only [if_neg a, h.r13, Option.bind_some, st_ok _ _ h.out (show inb 0 4 by decide), st_ok _ _ h.out (show inb 1 4 by decide), st_ok _ _ h.out (show inb 2 4 by decide), st_ok _ _ h.out (show inb 3 4 by decide), fR_ok 13 h.k, fI_ok 7 hw, fZ_ok 6 hw, e0, e1, e2, e3, eI, eJ]
    by_cases b : bz (I w 6) = 0
    · simp [b]
    · have b1 : bz (I w 6) = 1 := (bz_or _).resolve_left b
      simp [b1]
def drw (v : Int64) : Int64 := ((1103515245 * v) + 12345) &&& 2147483647
def drJ (J : MJ) : MJ := (up2 J.1 0 15 (drw (J.1 0 15)), J.2)
def drQ (v : Int64) (x : Int32) : Int32 := if 0 < x then Int64.toInt32 ((v / 64) - (v / 64) / (Int32.toInt64 x) * (Int32.toInt64 x)) else 0
theorem u_drawOf {J : MJ} (h : KL J) (I : MI) (x : Int32) (hx : 0 < x → ¬ Int32.toInt64 x = 0) : M_X9_drawOf [mR (some 0), mI x] (I, J) = some (some (mI (drQ (drw (J.1 0 15)) x)), (I, drJ J)) := by
  have w : ∀ v, wL (I, J) 9 0 15 v = some (I, (up2 J.1 0 15 v, J.2)) := fun v => if_pos h.k
  have f : ∀ v, fL (I, ((up2 J.1 0 15 v, J.2) : MJ)) 9 0 15 = some v := fun v => by
    rw [fL_ok 15 (show (jS (up2 J.1 0 15 v, J.2) 0).1 = 9 from h.k)]
    simp [up2]
  rw [E_X9_drawOf, fL_ok 15 h.k, Option.bind_some, w, Option.bind_some]
  unfold drQ
  by_cases a : 0 < x
  · rw [if_pos a, if_pos a, f, Option.bind_some, if_neg (by decide), if_neg (hx a)]
    rfl
  · rw [if_neg a, if_neg a]
    rfl
def wrb (I : MI) (x : Int32) : MI := if I 0 11 < 0 then I else if 300 ≤ I 0 11 then I else up2 (up2 I 185 (ix (I 0 11)) x) 0 11 (I 0 11 + 1)
theorem u_writeByte {J : MJ} (h : KL J) (I : MI) (x : Int32) : M_X9_writeByte [mR (some 0), mI x] (I, J) = some (none, (wrb I x, J)) := by
  rw [E_X9_writeByte]
  simp only [fI_ok 11 h.k, Option.bind_some, fR_ok 10 h.k, h.r10, aln_ok h.wri (by decide)]
  unfold wrb
  by_cases a : I 0 11 < 0
  · simp only [if_pos a]
  · simp only [if_neg a]
    rw [show nI 300 = 300 from rfl]
    by_cases b : 300 ≤ I 0 11
    · simp only [if_pos b]
    · simp only [if_neg b, st_ok _ _ h.wri (inb_of rfl a b), Option.bind_some, fI_ok 11 h.k, wI_ok 11 _ h.k]
      rfl
def wrl (x : Int32) (k : Nat) (I : MI) : MI := if q_X9_letterOf x (nI k) ≤ 0 then I else wrb I (97 + q_X9_letterOf x (nI k) - 1)
def wrn (I : MI) (x : Int32) : MI := itr (wrl x) 0 4 I
theorem u_writeName {J : MJ} (h : KL J) (I : MI) (x : Int32) : M_X9_writeName [mR (some 0), mI x] (I, J) = some (none, (wrn I x, J)) := by
  rw [E_X9_writeName]
  have step := loop_all (fun k I => Ev T_X9_writeName 2 [some (mR (some 0)), some (mI x), some (mI (nI k)), none] [] (I, J)) (wrl x) 4 I (fun k I hk => by
    try dsimp only
    rw [E_X9_writeName_2, if_neg (show ¬ (4 : Int32) ≤ nI k from nI_ge hk (by decide)), s_X9_letterOf]
    simp only [Option.bind_some, asI_I, nI_1]
    unfold wrl
    by_cases a : q_X9_letterOf x (nI k) ≤ 0
    · simp only [if_pos a]
    · simp only [if_neg a]
      rw [if_pos (show kd (I, J) 0 = 9 from h.k), u_writeByte h]
      rfl)
  try dsimp only at step
  rw [show (nI 0) = 0 from rfl] at step
  rw [step, E_X9_writeName_2, if_pos (show (4 : Int32) ≤ nI 4 by decide)]
  rfl
def wrs (r L k : Nat) (I : MI) : MI := wrn (wrb I 47) (q_X4_stepAt L (vw 2 (wrb I 47) r) (nI k))
def wrr (I : MI) (r L n : Nat) : MI := itr (fun k I => wrs r L k I) 0 n (if n = 0 then wrb I 47 else I)
theorem wrb_out (I : MI) (x : Int32) (a : Nat) (h0 : a ≠ 0) (h1 : a ≠ 185) : wrb I x a = I a := by
  unfold wrb
  split
  · rfl
  · split
    · rfl
    · funext j
      show (if a = 0 ∧ _ then _ else if a = 185 ∧ _ then _ else _) = _
      rw [if_neg (fun q => h0 q.1), if_neg (fun q => h1 q.1)]
theorem wrn_out (I : MI) (x : Int32) (a : Nat) (h0 : a ≠ 0) (h1 : a ≠ 185) : wrn I x a = I a := by
  have s : ∀ k I, wrl x k I a = I a := fun k I => by
    unfold wrl
    split
    · rfl
    · exact wrb_out _ _ _ h0 h1
  show wrl x 3 (wrl x 2 (wrl x 1 (wrl x 0 I))) a = _
  rw [s, s, s, s]
theorem u_writeRoute {J : MJ} (h : KL J) (I : MI) {r L n : Nat} (hP : RouL J r L) (h0 : r ≠ 0) (h1 : r ≠ 185) (hn : I r 1 = nI n) (hb : n < 1000) : M_X9_writeRoute [mR (some 0), mR (some r)] (I, J) = some (none, (wrr I r L n, J)) := by
  have run : ∀ (f k : Nat) (I : MI), k + f = n → I r 1 = nI n → Ev T_X9_writeRoute 15 [some (mR (some 0)), some (mR (some r)), some (mI (nI k))] [] (I, J) = some (none, (itr (fun k I => wrs r L k I) k f I, J)) := by
    intro f
    induction f with
    | zero =>
      intro k I hk hI
      rw [E_X9_writeRoute_15, fI_ok 1 hP.k, Option.bind_some, hI, show k = n by omega, if_pos (Int32.le_refl _)]
      rfl
    | succ f ih =>
      intro k I hk hI
      rw [E_X9_writeRoute_15, fI_ok 1 hP.k, Option.bind_some, hI, if_neg (nI_ge (show k < n by omega) (by omega)), if_pos (show kd (I, J) 0 = 9 from h.k), u_writeByte h]
      simp only [Option.bind_some, asV_n]
      rw [if_pos (show kd (wrb I 47, J) r = 4 from hP.k), t_X4_stepAt hP]
      simp only [Option.bind_some, asI_I]
      rw [if_pos (show kd (wrb I 47, J) 0 = 9 from h.k), u_writeName h]
      simp only [Option.bind_some, asV_n, nI_1]
      exact ih (k + 1) _ (by omega) (by rw [wrn_out _ _ _ h0 h1, wrb_out _ _ _ h0 h1]; exact hI)
  rw [E_X9_writeRoute, fI_ok 1 hP.k, Option.bind_some, hn]
  unfold wrr
  by_cases a : n = 0
  · rw [a, if_pos (show nI 0 = 0 from rfl), if_pos rfl, if_pos (show kd (I, J) 0 = 9 from h.k), u_writeByte h]
    simp only [Option.bind_some, asV_n]
    have := run 0 0 (wrb I 47) (by omega) (by rw [wrb_out _ _ _ h0 h1]; exact hn)
    exact this
  · rw [if_neg a, if_neg (fun q => by
      have := congrArg Int32.toInt q
      rw [nI_toInt (by omega)] at this
      have e0 : (0 : Int32).toInt = 0 := rfl
      omega)]
    exact run n 0 I (by omega) hn
def adw (x s : Int32) (Q : RouV) : RouV := if (Q 0 1) < 0 then Q else if (400 : Int32) ≤ (Q 0 1) then Q else uv (uv Q 1 (ix (Q 0 1)) (((Int32.toUInt32 x >>> (Int32.toUInt32 s &&& Int32.toUInt32 31)).toInt32) &&& 255)) 0 1 ((Q 0 1) + 1)
def gQ_X5_addWord (Q : RouV) (x : Int32) : RouV := adw x 0 (adw x 8 (adw x 16 (adw x 24 Q)))
theorem t_X5_addWord {J : MJ} {t : Nat} (hT : TapL J t) (I : MI) (x : Int32) : M_X5_addWord [mR (some t), mI x] (I, J) = some (none, (pt I t (gQ_X5_addWord (vw 2 I t) x), J)) := by
  have st : ∀ (Q : RouV) (s : Int32), ¬ s < 0 → Ev T_X5_addWord 3 [some (mR (some t)), some (mI x), some (mI s)] [] (pt I t Q, J) = Ev T_X5_addWord 3 [some (mR (some t)), some (mI x), some (mI (s + (-8)))] [] (pt I t (adw x s Q), J) := by
    intro Q s hs
    rw [P_X5_addWord_3 hT, if_neg hs]
    unfold adw
    by_cases a : (Q 0 1) < 0
    · rw [if_pos a, if_pos a]
    · rw [if_neg a, if_neg a]
      by_cases b : (400 : Int32) ≤ (Q 0 1)
      · rw [if_pos b, if_pos b]
      · rw [if_neg b, if_neg b]
  have h0 := P_X5_addWord hT I (vw 2 I t) x
  rw [pt_vw] at h0
  rw [h0]
  have e := st (vw 2 I t) 24 (by decide)
  rw [pt_vw] at e
  rw [e, show (24 : Int32) + (-8) = 16 from rfl, st _ 16 (by decide), show (16 : Int32) + (-8) = 8 from rfl, st _ 8 (by decide), show (8 : Int32) + (-8) = 0 from rfl, st _ 0 (by decide), show (0 : Int32) + (-8) = -8 from rfl, P_X5_addWord_3 hT, if_pos (by decide)]
  rfl
end
section
/-! Public calls of the class, those that keep no world. -/
def fedQ (Q : RouV) (a b c d e : Int32) : RouV := gQ_X5_addWord (gQ_X5_addWord (gQ_X5_addWord (gQ_X5_addWord (gQ_X5_addWord Q a) b) c) d) e
theorem u_feed {J : MJ} (h : KL J) (I : MI) (a b c d e : Int32) : M_X9_feed [mR (some 0), mI a, mI b, mI c, mI d, mI e] (I, J) = if q_X5_hasSpace (vw 2 I 7) 20 = 0 then some (some (mI (-1)), (rfz I 0, J)) else some (some (mI (fedQ (vw 2 I 7) a b c d e 0 1)), (pt I 7 (fedQ (vw 2 I 7) a b c d e), J)) := by
  have k5 : ∀ X : MI, kd (X, J) 7 = 5 := fun X => h.tape.k
  have k9 : ∀ X : MI, kd (X, J) 0 = 9 := fun X => h.k
  rw [E_X9_feed]
  simp only [fR_ok 0 h.k, h.r0, Option.bind_some]
  rw [if_pos (k5 I), t_X5_hasSpace h.tape I]
  simp only [Option.bind_some, asI_I]
  by_cases q : q_X5_hasSpace (vw 2 I 7) 20 = 0
  · rw [if_pos q, if_pos q, if_pos (k9 I), show (0 : Int32) = nI 0 from rfl, u_refuse h I (by decide)]
    rfl
  · rw [if_neg q, if_neg q]
    simp only [fR_ok 0 h.k, h.r0, Option.bind_some]
    rw [if_pos (k5 I), t_X5_addWord h.tape]
    simp only [Option.bind_some, asV_n, fR_ok 0 h.k, h.r0]
    rw [if_pos (k5 _), t_X5_addWord h.tape, pt_pt, vw_pt]
    simp only [Option.bind_some, asV_n, fR_ok 0 h.k, h.r0]
    rw [if_pos (k5 _), t_X5_addWord h.tape, pt_pt, vw_pt]
    simp only [Option.bind_some, asV_n, fR_ok 0 h.k, h.r0]
    rw [if_pos (k5 _), t_X5_addWord h.tape, pt_pt, vw_pt]
    simp only [Option.bind_some, asV_n, fR_ok 0 h.k, h.r0]
    rw [if_pos (k5 _), t_X5_addWord h.tape, pt_pt, vw_pt]
    simp only [Option.bind_some, asV_n, fR_ok 0 h.k, h.r0, fI_ok 1 h.tape.k]
    rw [p2_0]
    rfl
theorem u_end {J : MJ} (h : KL J) (I : MI) (x : Int32) : M_X9_end [mR (some 0), mI x] (I, J) = if q_X5_cut (vw 2 I 7) x = 0 then some (some (mI 0), (rfz (pt I 7 (gQ_X5_cut (vw 2 I 7) x)) 0, J)) else some (some (mI 1), (pt I 7 (gQ_X5_cut (vw 2 I 7) x), J)) := by
  rw [E_X9_end]
  simp only [fR_ok 0 h.k, h.r0, Option.bind_some]
  rw [if_pos (show kd (I, J) 7 = 5 from h.tape.k), t_X5_cut h.tape I]
  simp only [Option.bind_some, asI_I]
  by_cases q : q_X5_cut (vw 2 I 7) x = 0
  · rw [if_pos q, if_pos q, if_pos (show kd (_, J) 0 = 9 from h.k), show M_X9_refuseFlatly [mR (some 0), mI 0] _ = _ from u_refuseFlatly h _ (k := 0) (by decide)]
    simp [asI]
  · rw [if_neg q, if_neg q]
    simp
theorem u_fault {J : MJ} (h : KL J) (I : MI) (x : Int32) : M_X9_fault [mR (some 0), mI x] (I, J) = some (some (mI (if x = 0 then I 9 1 else if x = 1 then I 9 2 else -1)), (I, J)) := by
  rw [E_X9_fault]
  simp only [fR_ok 1 h.k, h.r1, Option.bind_some, fI_ok 1 h.reader.k, fI_ok 2 h.reader.k]
  by_cases a : x = 0
  · rw [if_pos a, if_pos a]
  · rw [if_neg a, if_neg a]
    by_cases b : x = 1
    · rw [if_pos b, if_pos b]
    · rw [if_neg b, if_neg b]
theorem u_node {J : MJ} (h : KL J) (I : MI) (x y : Int32) : M_X9_node [mR (some 0), mI x, mI y] (I, J) = some (some (mI (q_X2_tell (vw 6 I 1) x y)), (I, J)) := by
  rw [E_X9_node]
  simp only [fR_ok 2 h.k, h.r2, Option.bind_some, fR_ok 0 h.world.k, h.world.r0]
  rw [if_pos (show kd (I, J) 1 = 2 from h.nodes.k), t_X2_tell h.nodes I]
  rfl
theorem u_entry {J : MJ} (h : KL J) (I : MI) (x y : Int32) : M_X9_entry [mR (some 0), mI x, mI y] (I, J) = some (some (mI (q_X1_tell (vw 12 I 17) x y)), (I, J)) := by
  rw [E_X9_entry]
  simp only [fR_ok 2 h.k, h.r2, Option.bind_some, fR_ok 1 h.world.k, h.world.r1]
  rw [if_pos (show kd (I, J) 17 = 1 from h.mem.k), t_X1_tell h.mem I]
  rfl
theorem u_handle {J : MJ} (h : KL J) (I : MI) (x : Int32) : M_X9_handle [mR (some 0), mI x] (I, J) = some (some (mI (q_X8_handleAt (vw 1 I 16) (vw 1 I 29) x)), (I, J)) := by
  rw [E_X9_handle]
  simp only [fR_ok 2 h.k, h.r2, Option.bind_some]
  rw [if_pos (show kd (I, J) 16 = 8 from h.world.k), t_X8_handleAt h.world h.han (by decide) I]
  rfl
def tlw (I : MI) (x y : Int32) : Int32 := match q_X8_walkerAt I 31 x with
  | none => -1
  | some w => q_X7_tell 12 (vw 1 I w) (vw 2 I (w + 1)) (vw 3 I (w + 3)) y
theorem walkerAt_some {I : MI} {w0 w : Nat} {x : Int32} (h : q_X8_walkerAt I w0 x = some w) : ∃ k, k < 4 ∧ x = nI k ∧ w = w0 + 6 * k ∧ ¬ wz I w0 k = 0 := by
  unfold q_X8_walkerAt at h
  by_cases a : x < 0
  · rw [if_pos a] at h; cases h
  · rw [if_neg a] at h
    by_cases b : (4 : Int32) ≤ x
    · rw [if_pos b] at h; cases h
    · rw [if_neg b] at h
      by_cases c : wz I w0 (ix x) = 0
      · rw [if_pos c] at h; cases h
      · rw [if_neg c] at h
        cases h
        refine ⟨ix x, inb_ix rfl a b, ?_, rfl, c⟩
        apply Int32.toInt_inj.mp
        have hx := inb_ix (n := 4) rfl a b
        rw [nI_toInt (by omega)]
        have a' := i32_le.mp (Int32.not_lt.mp a)
        have e0 : (0 : Int32).toInt = 0 := rfl
        rw [e0] at a'
        show x.toInt = ((x.toInt.toNat : Nat) : Int)
        omega
theorem u_walker {J : MJ} (h : KL J) (I : MI) (x y : Int32) : M_X9_walker [mR (some 0), mI x, mI y] (I, J) = some (some (mI (tlw I x y)), (I, J)) := by
  rw [E_X9_walker]
  simp only [fR_ok 2 h.k, h.r2, Option.bind_some]
  rw [if_pos (show kd (I, J) 16 = 8 from h.world.k), t_X8_walkerAt h.world h.wks I]
  simp only [Option.bind_some, asR_R]
  unfold tlw
  cases hq : q_X8_walkerAt I 31 x with
  | none => rfl
  | some w =>
    obtain ⟨k, hk, _, hw, _⟩ := walkerAt_some hq
    subst hw
    have q := h.wks.2 k hk
    rw [cR_s, Option.bind_some, if_pos (show kd (I, J) (31 + 6 * k) = 7 from q.2.1.k), t_X7_tell q.2.1 q.2.2.1 q.2.2.2 (by omega) (by omega) (by omega) I]
    rfl
theorem u_octet {J : MJ} (h : KL J) (I : MI) (x : Int32) : M_X9_octet [mR (some 0), mI x] (I, J) = some (some (mI (if x < 0 then -1 else if I 0 11 ≤ x then -1 else if 300 ≤ x then -1 else I 185 (ix x))), (I, J)) := by
  rw [E_X9_octet]
  simp only [fI_ok 11 h.k, fR_ok 10 h.k, h.r10, Option.bind_some, aln_ok h.wri (by decide)]
  rw [show nI 300 = 300 from rfl]
  by_cases a : x < 0
  · simp only [if_pos a]
  · simp only [if_neg a]
    by_cases b : I 0 11 ≤ x
    · simp only [if_pos b]
    · simp only [if_neg b]
      by_cases c : 300 ≤ x
      · simp only [if_pos c]
      · simp only [if_neg c, ld_ok _ h.wri (inb_of rfl a c), Option.bind_some]
theorem u_status {J : MJ} (h : KL J) (I : MI) (x : Int32) : M_X9_status [mR (some 0), mI x] (I, J) = some (some (mI (if x < 0 then -1 else if 6 ≤ x then -1 else I 186 (ix x))), (I, J)) := by
  rw [E_X9_status]
  simp only [fR_ok 12 h.k, h.r12, Option.bind_some]
  by_cases a : x < 0
  · simp only [if_pos a]
  · simp only [if_neg a]
    by_cases c : 6 ≤ x
    · simp only [if_pos c]
    · simp only [if_neg c, ld_ok _ h.ref (inb_of rfl a c), Option.bind_some]
theorem u_result {J : MJ} (h : KL J) (I : MI) (x : Int32) : M_X9_result [mR (some 0), mI x] (I, J) = some (some (mI (if bz (I 0 14) = 0 then -1 else if x < 0 then -1 else if 4 ≤ x then -1 else I 187 (ix x))), (I, J)) := by
  rw [E_X9_result, fZ_ok 14 h.k, Option.bind_some]
  simp only [fR_ok 13 h.k, h.r13, Option.bind_some]
  by_cases z : bz (I 0 14) = 0
  · simp only [if_pos z]
  · simp only [if_neg z]
    by_cases a : x < 0
    · simp only [if_pos a]
    · simp only [if_neg a]
      by_cases c : 4 ≤ x
      · simp only [if_pos c]
      · simp only [if_neg c, ld_ok _ h.out (inb_of rfl a c), Option.bind_some]
theorem u_seed {J : MJ} (h : KL J) (I : MI) (x : Int32) : M_X9_seed [mR (some 0), mI x] (I, J) = if 0 ≤ x then some (some (mI 1), (I, (up2 J.1 0 15 (Int32.toInt64 x), J.2))) else some (some (mI 0), (rfz I 5, J)) := by
  have w : ∀ v, wL (I, J) 9 0 15 v = some (I, (up2 J.1 0 15 v, J.2)) := fun v => if_pos h.k
  rw [E_X9_seed]
  by_cases a : 0 ≤ x
  · rw [if_pos a, if_pos a, w, Option.bind_some]
    simp
  · rw [if_neg a, if_neg a, if_pos (show kd (I, J) 0 = 9 from h.k), show (5 : Int32) = nI 5 from rfl, u_refuseFlatly h I (by decide)]
    simp [asI]
theorem u_see {J : MJ} (h : KL J) (I : MI) (x : Int32) : M_X9_see [mR (some 0), mI x] (I, J) = if I 69 1 = 0 ∨ ¬ 0 ≤ x then some (some (mI 0), (rfz I 5, J)) else some (some (mI 1), (up2 I 69 2 x, J)) := by
  rw [E_X9_see]
  simp only [fR_ok 5 h.k, h.r5, Option.bind_some, fI_ok 1 h.trc.k]
  by_cases a : I 69 1 = 0
  · rw [if_pos a, if_pos (Or.inl a), if_pos (show kd (I, J) 0 = 9 from h.k), show (5 : Int32) = nI 5 from rfl, u_refuseFlatly h I (by decide)]
    simp [asI]
  · rw [if_neg a]
    by_cases b : 0 ≤ x
    · rw [if_pos b, if_neg (fun q => q.elim a (fun z => z b)), wI_ok 2 _ h.trc.k, Option.bind_some]
      simp
    · rw [if_neg b, if_pos (Or.inr b), if_pos (show kd (I, J) 0 = 9 from h.k), show (5 : Int32) = nI 5 from rfl, u_refuseFlatly h I (by decide)]
      simp [asI]
theorem u_child {J : MJ} (h : KL J) (I : MI) (x : Int32) : M_X9_child [mR (some 0), mI x] (I, J) = some (some (mI (if q_X9_nameBetween (vw 2 I 7) 0 (I 7 1) = 0 then -1 else q_X1_find (vw 12 I 17) x (q_X9_nameBetween (vw 2 I 7) 0 (I 7 1)))), (clr I, J)) := by
  rw [E_X9_child]
  simp only [fR_ok 0 h.k, h.r0, Option.bind_some, fI_ok 1 h.tape.k]
  rw [t_X9_nameBetween h.tape I]
  simp only [Option.bind_some, asI_I, fR_ok 0 h.k, h.r0]
  rw [if_pos (show kd (I, J) 7 = 5 from h.tape.k), t_X5_clear h.tape I]
  simp only [Option.bind_some, asV_n, fR_ok 2 h.k, h.r2, fR_ok 1 h.world.k, h.world.r1]
  by_cases a : q_X9_nameBetween (vw 2 I 7) 0 (I 7 1) = 0
  · rw [if_pos a, if_pos a]
    rfl
  · rw [if_neg a, if_neg a, if_pos (show kd (_, J) 17 = 1 from h.mem.k), t_X1_find h.mem, vw_out I _ (by decide)]
    rfl
end
section
/-! Public calls of the class that keep no world, on. -/
def hasQ (I : MI) (x : Int32) : Int32 := if x = 0 then I 1 6 else if x = 1 then q_X2_howMany (vw 6 I 1) else if x = 2 then q_X1_howMany (vw 12 I 17) else if x = 3 then q_X1_absences (vw 12 I 17) else if x = 4 then q_X1_freeOnes (vw 12 I 17) else if x = 5 then I 17 11 else if x = 6 then I 17 12 else if x = 7 then I 17 13 else if x = 8 then I 17 14 else if x = 9 then q_X8_handlesOpen (vw 1 I 16) (vw 1 I 29) else if x = 10 then q_X8_walkersUnderWay I 31 else if x = 11 then q_X1_mountedBits (vw 12 I 17) else if x = 12 then I 69 1 else if x = 13 then I 69 2 else if x = 14 then I 67 2 else if x = 15 then q_X1_goneOnes (vw 12 I 17) else -1
theorem u_has {J : MJ} (h : KL J) (I : MI) (x : Int32) : M_X9_has [mR (some 0), mI x] (I, J) = some (some (mI (hasQ I x)), (I, J)) := by
  have k1 : kd (I, J) 17 = 1 := h.mem.k
  have k8 : kd (I, J) 16 = 8 := h.world.k
  have k2 : kd (I, J) 1 = 2 := h.nodes.k
  rw [E_X9_has]
  simp only [fR_ok 2 h.k, h.r2, Option.bind_some, fR_ok 1 h.world.k, h.world.r1, fR_ok 0 h.world.k, h.world.r0, fI_ok 6 h.nodes.k, fI_ok 11 h.mem.k, fI_ok 12 h.mem.k, fI_ok 13 h.mem.k, fI_ok 14 h.mem.k, if_pos k1, if_pos k8, if_pos k2, t_X2_howMany h.nodes I, t_X1_howMany h.mem I, t_X1_absences h.mem I, t_X1_freeOnes h.mem I, t_X8_handlesOpen h.world h.han (by decide) I, t_X8_walkersUnderWay h.world h.wks I, t_X1_mountedBits h.mem I, t_X1_goneOnes h.mem I, asI_I, fR_ok 5 h.k, h.r5, fI_ok 1 h.trc.k, fI_ok 2 h.trc.k, fR_ok 4 h.k, h.r4, fI_ok 2 h.his.1]
  unfold hasQ
  by_cases a0 : x = 0
  · simp only [if_pos a0]
  · simp only [if_neg a0]
    by_cases a1 : x = 1
    · simp only [if_pos a1]
    · simp only [if_neg a1]
      by_cases a2 : x = 2
      · simp only [if_pos a2]
      · simp only [if_neg a2]
        by_cases a3 : x = 3
        · simp only [if_pos a3]
        · simp only [if_neg a3]
          by_cases a4 : x = 4
          · simp only [if_pos a4]
          · simp only [if_neg a4]
            by_cases a5 : x = 5
            · simp only [if_pos a5]
            · simp only [if_neg a5]
              by_cases a6 : x = 6
              · simp only [if_pos a6]
              · simp only [if_neg a6]
                by_cases a7 : x = 7
                · simp only [if_pos a7]
                · simp only [if_neg a7]
                  by_cases a8 : x = 8
                  · simp only [if_pos a8]
                  · simp only [if_neg a8]
                    by_cases a9 : x = 9
                    · simp only [if_pos a9]
                    · simp only [if_neg a9]
                      by_cases a10 : x = 10
                      · simp only [if_pos a10]
                      · simp only [if_neg a10]
                        by_cases a11 : x = 11
                        · simp only [if_pos a11]
                        · simp only [if_neg a11]
                          by_cases a12 : x = 12
                          · simp only [if_pos a12]
                          · simp only [if_neg a12]
                            by_cases a13 : x = 13
                            · simp only [if_pos a13]
                            · simp only [if_neg a13]
                              by_cases a14 : x = 14
                              · simp only [if_pos a14]
                              · simp only [if_neg a14]
                                by_cases a15 : x = 15
                                · simp only [if_pos a15]
                                · simp only [if_neg a15]
def letQ (I : MI) (x y k : Int32) : Int32 := if (if x = 0 then q_X2_exists (vw 6 I 1) y else q_X1_isEntry (vw 12 I 17) y) = 0 then -1 else if k < 0 then -1 else if k < 4 then q_X9_letterOf (if x = 0 then q_X2_nameOf (vw 6 I 1) y else q_X1_nameOf (vw 12 I 17) y) k else -1
theorem u_letter {J : MJ} (h : KL J) (I : MI) (x y k : Int32) : M_X9_letter [mR (some 0), mI x, mI y, mI k] (I, J) = some (some (mI (letQ I x y k)), (I, J)) := by
  have k1 : kd (I, J) 17 = 1 := h.mem.k
  have k2 : kd (I, J) 1 = 2 := h.nodes.k
  rw [E_X9_letter]
  simp only [fR_ok 2 h.k, h.r2, Option.bind_some, fR_ok 1 h.world.k, h.world.r1, fR_ok 0 h.world.k, h.world.r0, if_pos k1, if_pos k2, t_X2_exists h.nodes I, t_X1_isEntry h.mem I, t_X2_nameOf h.nodes I, t_X1_nameOf h.mem I, asI_I, s_X9_letterOf]
  unfold letQ
  by_cases a : x = 0
  · simp only [if_pos a]
    by_cases b : q_X2_exists (vw 6 I 1) y = 0
    · simp only [if_pos b]
    · simp only [if_neg b]
      by_cases c : k < 0
      · simp only [if_pos c]
      · simp only [if_neg c]
        by_cases d : k < 4
        · simp only [if_pos d]
        · simp only [if_neg d]
  · simp only [if_neg a]
    by_cases b : q_X1_isEntry (vw 12 I 17) y = 0
    · simp only [if_pos b]
    · simp only [if_neg b]
      by_cases c : k < 0
      · simp only [if_pos c]
      · simp only [if_neg c]
        by_cases d : k < 4
        · simp only [if_pos d]
        · simp only [if_neg d]
/-- the heap when paths have been taken from the tape -/
def tkn (I : MI) (T : Nat) : MI := clr (rowO I T).2
theorem u_take {J : MJ} (h : KL J) (I : MI) {T : Nat} (hT : T ≤ 400) (hl : I 7 1 = nI T) (x : Int32) : M_X9_takePaths [mR (some 0), mI x] (I, J) = some (some (mI (if (rowO I T).1 = x then 1 else 0)), (tkn I T, J)) := u_takePaths h I hT hl x
theorem u_where {J : MJ} (h : KL J) (I : MI) {T : Nat} (hT : T ≤ 400) (hl : I 7 1 = nI T) : M_X9_where [mR (some 0)] (I, J) = if (rowO I T).1 = 1 then some (some (mI (if 0 ≤ tryQ (tkn I T) then q_X1_nodeOf (tryV (tkn I T)) (tryQ (tkn I T)) else tryQ (tkn I T))), (pt (tkn I T) 55 (tryV (tkn I T)), J)) else some (some (mI (-1)), (tkn I T, J)) := by
  rw [E_X9_where, if_pos (show kd (I, J) 0 = 9 from h.k), u_take h I hT hl]
  simp only [Option.bind_some, asI_I]
  generalize tkn I T = X
  by_cases a : (rowO I T).1 = 1
  · simp only [if_pos a]
    rw [if_neg (by decide)]
    simp only [fR_ok 6 h.k, h.r6, Option.bind_some]
    rw [if_pos (show kd (X, J) 0 = 9 from h.k), u_tryOut h]
    simp only [Option.bind_some, asI_I, fR_ok 3 h.k, h.r3]
    by_cases b : 0 ≤ tryQ (X)
    · simp only [if_pos b]
      rw [if_pos (show kd (_, J) 55 = 1 from h.trial.k), t_X1_nodeOf h.trial, vw_pt]
      rfl
    · simp only [if_neg b]
  · simp only [if_neg a]
    rfl
theorem u_needs {J : MJ} (h : KL J) (I : MI) {T : Nat} (hT : T ≤ 400) (hl : I 7 1 = nI T) : M_X9_needs [mR (some 0)] (I, J) = if (rowO I T).1 = 1 then some (some (mI (tryV (tkn I T) 0 13 - tkn I T 17 13)), (pt (tkn I T) 55 (tryV (tkn I T)), J)) else some (some (mI (-1)), (tkn I T, J)) := by
  rw [E_X9_needs, if_pos (show kd (I, J) 0 = 9 from h.k), u_take h I hT hl]
  simp only [Option.bind_some, asI_I]
  generalize tkn I T = X
  by_cases a : (rowO I T).1 = 1
  · simp only [if_pos a]
    rw [if_neg (by decide)]
    simp only [fR_ok 6 h.k, h.r6, Option.bind_some]
    rw [if_pos (show kd (X, J) 0 = 9 from h.k), u_tryOut h]
    simp only [Option.bind_some, asI_I, fR_ok 3 h.k, h.r3, fI_ok 13 h.trial.k, fR_ok 2 h.k, h.r2, fR_ok 1 h.world.k, h.world.r1, fI_ok 13 h.mem.k]
    rw [p12_0, pt_out (x := 17) (by decide)]
  · simp only [if_neg a]
    rfl
def lp_victim (x1 : Int32) : Nat → Int32 → MemV → Int32 × MemV
  | 0, x2, V => (if x1 = -1 then x2 else -1, V)
  | f + 1, x2, V => if q_X1_longestUnused V (-1) = -1 then (if x1 = -1 then x2 else -1, V) else if x2 = x1 then (q_X1_longestUnused V (-1), V) else lp_victim x1 f (x2 + 1) (gV_X1_drop V (q_X1_longestUnused V (-1)))
def vicO (I : MI) (x1 : Int32) : Int32 × MemV := lp_victim x1 64 0 (gV_X1_copyFrom (vw 12 I 17) (vw 12 I 55))
theorem u_victim {J : MJ} (h : KL J) (I : MI) (x : Int32) : M_X9_victim [mR (some 0), mI x] (I, J) = if I 1 6 ≤ 0 ∨ ¬ (-1) ≤ x then some (some (mI (-1)), (I, J)) else some (some (mI (vicO I x).1), (pt I 55 (vicO I x).2, J)) := by
  have k1 : ∀ X : MI, kd (X, J) 55 = 1 := fun X => h.trial.k
  rw [E_X9_victim, if_pos (show kd (I, J) 0 = 9 from h.k), u_hasTrees h I]
  simp only [Option.bind_some, asI_I]
  by_cases a : I 1 6 ≤ 0
  · rw [if_pos a, if_pos rfl, if_pos (Or.inl a)]
  · rw [if_neg a, if_neg (by decide)]
    by_cases b : (-1) ≤ x
    · rw [if_pos b, if_neg (fun q => q.elim a (fun z => z b))]
      simp only [fR_ok 3 h.k, h.r3, fR_ok 2 h.k, h.r2, fR_ok 1 h.world.k, h.world.r1, Option.bind_some]
      rw [if_pos (k1 I), t_X1_copyFrom h.mem h.trial (by decide) I]
      simp only [Option.bind_some, asV_n]
      have run : ∀ (f k : Nat) (x2 : Int32) (V : MemV), k + f = 64 → Ev T_X9_victim 32 [some (mR (some 0)), some (mI x), some (mI x2), some (mI (nI k)), none] [] (pt I 55 V, J) = some (some (mI (lp_victim x f x2 V).1), (pt I 55 (lp_victim x f x2 V).2, J)) := by
        intro f
        induction f with
        | zero =>
          intro k x2 V hk
          have hk : k = 64 := by omega
          subst hk
          rw [E_X9_victim_32, if_pos (show (64 : Int32) ≤ nI 64 by decide)]
          unfold lp_victim
          split <;> rfl
        | succ f ih =>
          intro k x2 V hk
          rw [E_X9_victim_32, if_neg (show ¬ (64 : Int32) ≤ nI k from nI_ge (show k < 64 by omega) (by decide))]
          simp only [fR_ok 3 h.k, h.r3, Option.bind_some]
          rw [if_pos (k1 _), t_X1_longestUnused h.trial, vw_pt]
          simp only [Option.bind_some, asI_I]
          unfold lp_victim
          by_cases c : q_X1_longestUnused V (-1) = -1
          · simp only [if_pos c]
            split <;> rfl
          · simp only [if_neg c]
            by_cases d : x2 = x
            · simp only [if_pos d]
            · simp only [if_neg d, fR_ok 3 h.k, h.r3, Option.bind_some]
              rw [if_pos (k1 _), t_X1_drop h.trial, vw_pt, pt_pt]
              simp only [Option.bind_some, asV_n, nI_1]
              exact ih (k + 1) _ _ (by omega)
      exact run 64 0 0 _ rfl
    · rw [if_neg b, if_pos (Or.inr b)]
def pthR (I : MI) (e : Int32) : RouV := gP_X8_routeTo 60 (vw 1 I 16) (vw 2 I 183) (vw 6 I 1) (vw 12 I 17) (q_X1_nodeOf (vw 12 I 17) e)
theorem vw_up2 {N : Nat} (I : MI) (a x k : Nat) (v : Int32) (h : x < a ∨ a + N ≤ x) : vw N (up2 I x k v) a = vw N I a := by
  funext j i
  show (if a + j.val = x ∧ _ then _ else _) = _
  rw [if_neg (fun q => by have := q.1; have := j.isLt; omega)]
  rfl
theorem u_path {J : MJ} (h : KL J) (I : MI) (x : Int32) {n : Nat} (hn : pthR I (q_X8_handleAt (vw 1 I 16) (vw 1 I 29) x) 0 1 = nI n) (hb : n < 1000) : M_X9_path [mR (some 0), mI x] (I, J) = if q_X8_handleAt (vw 1 I 16) (vw 1 I 29) x = -1 then some (some (mI (-1)), (I, J)) else if q_X1_isGone (vw 12 I 17) (q_X8_handleAt (vw 1 I 16) (vw 1 I 29) x) = 0 then some (some (mI (wrr (pt (up2 I 0 11 0) 183 (pthR I (q_X8_handleAt (vw 1 I 16) (vw 1 I 29) x))) 183 60 n 0 11)), (wrr (pt (up2 I 0 11 0) 183 (pthR I (q_X8_handleAt (vw 1 I 16) (vw 1 I 29) x))) 183 60 n, J)) else some (some (mI 0), (up2 I 0 11 0, J)) := by
  have k1 : ∀ X : MI, kd (X, J) 17 = 1 := fun X => h.mem.k
  have k8 : ∀ X : MI, kd (X, J) 16 = 8 := fun X => h.world.k
  rw [E_X9_path]
  simp only [fR_ok 2 h.k, h.r2, Option.bind_some]
  rw [if_pos (k8 I), t_X8_handleAt h.world h.han (by decide) I]
  simp only [Option.bind_some, asI_I]
  generalize hx : q_X8_handleAt (vw 1 I 16) (vw 1 I 29) x = e at hn
  by_cases a : e = -1
  · rw [if_pos a, if_pos a]
  · rw [if_neg a, if_neg a, wI_ok 11 _ h.k, Option.bind_some]
    simp only [fR_ok 2 h.k, h.r2, Option.bind_some, fR_ok 1 h.world.k, h.world.r1]
    rw [if_pos (k1 _), t_X1_isGone h.mem, vw_up2 I 17 0 11 0 (by decide)]
    simp only [Option.bind_some, asI_I]
    by_cases b : q_X1_isGone (vw 12 I 17) e = 0
    · rw [if_pos b, if_pos b]
      simp only [fR_ok 2 h.k, h.r2, Option.bind_some, fR_ok 1 h.world.k, h.world.r1]
      rw [if_pos (k1 _), t_X1_nodeOf h.mem, vw_up2 I 17 0 11 0 (by decide)]
      simp only [Option.bind_some, asI_I, fR_ok 9 h.k, h.r9]
      rw [if_pos (k8 _), t_X8_routeTo h.world h.long h.nodes h.mem (by decide) (by decide) (by decide) (by decide) (by decide) (by decide), vw_up2 I 17 0 11 0 (by decide), vw_up2 I 1 0 11 0 (by decide), vw_up2 I 183 0 11 0 (by decide), vw_up2 I 16 0 11 0 (by decide)]
      simp only [Option.bind_some, asV_n, fR_ok 9 h.k, h.r9]
      rw [if_pos (show kd (_, J) 0 = 9 from h.k)]
      have e2 := u_writeRoute h (pt (up2 I 0 11 0) 183 (pthR I e)) (r := 183) (L := 60) (n := n) h.long (by decide) (by decide) (by rw [p2_0]; exact hn) hb
      rw [show (gP_X8_routeTo 60 (vw 1 I 16) (vw 2 I 183) (vw 6 I 1) (vw 12 I 17) (q_X1_nodeOf (vw 12 I 17) e)) = pthR I e from rfl, e2]
      simp only [Option.bind_some, asV_n, fI_ok 11 h.k]
    · rw [if_neg b, if_neg b, fI_ok 11 h.k, Option.bind_some]
      show some (some (mI (if 0 = 0 ∧ 11 = 11 then (0 : Int32) else _)), _) = _
      rw [if_pos ⟨rfl, rfl⟩]
end
section
/-! Public calls of the class that keep the world first. -/
theorem u_look_no {J : MJ} (h : KL J) (I : MI) {T : Nat} (hT : T ≤ 400) (hl : I 7 1 = nI T) (hn : ¬ (rowO I T).1 = 1) : M_X9_look [mR (some 0)] (I, J) = some (some (mI (-1)), (rfz (tkn I T) 2, J)) := by
  rw [E_X9_look, if_pos (show kd (I, J) 0 = 9 from h.k), u_take h I hT hl, if_neg hn]
  simp only [Option.bind_some, asI_I]
  rw [if_pos trivial, if_pos (show kd (_, _) 0 = 9 from h.k), show M_X9_refuse [mR (some 0), mI 2] _ = _ from u_refuse h _ (k := 2) (by decide)]
  rfl
theorem u_look {J : MJ} (h : KL J) (I : MI) {T : Nat} (hT : T ≤ 400) (hl : I 7 1 = nI T) (hy : (rowO I T).1 = 1) {X : MI} {J1 : MJ} (hk : M_X0_keep [mR (some 67), mR (some 16)] (tkn I T, J) = some (none, (X, J1))) (h1 : KL J1) : M_X9_look [mR (some 0)] (I, J) = some (some (mI (q_X1_walk 12 (vw 2 X 158) (vw 6 X 1) (vw 12 X 17) (X 158 1))), (pt X 17 (gV_X1_walk 12 (vw 2 X 158) (vw 6 X 1) (vw 12 X 17) (X 158 1)), J1)) := by
  rw [E_X9_look, if_pos (show kd (I, J) 0 = 9 from h.k), u_take h I hT hl, if_pos hy]
  simp only [Option.bind_some, asI_I]
  rw [if_neg (show ¬ (1 : Int32) = 0 by decide)]
  simp only [fR_ok 4 h.k, h.r4, fR_ok 2 h.k, h.r2, Option.bind_some]
  rw [if_pos (show kd (_, _) 67 = 0 from h.his.1), hk]
  simp only [Option.bind_some, asV_n, fR_ok 2 h1.k, h1.r2, fR_ok 6 h1.k, h1.r6, fR_ok 7 h1.k, h1.r7]
  simp only [fR_ok 1 h1.world.k, h1.world.r1, fI_ok 1 h1.fir.k, Option.bind_some]
  rw [if_pos (show kd (_, _) 17 = 1 from h1.mem.k), t_X1_walk h1.fir h1.nodes h1.mem (by decide) (by decide) (by decide)]
  rfl
theorem u_remove_no {J : MJ} (h : KL J) (I : MI) {T : Nat} (hT : T ≤ 400) (hl : I 7 1 = nI T) (hn : ¬ (rowO I T).1 = 1) : M_X9_remove [mR (some 0)] (I, J) = some (some (mI (-1)), (rfz (tkn I T) 3, J)) := by
  rw [E_X9_remove, if_pos (show kd (I, J) 0 = 9 from h.k), u_take h I hT hl, if_neg hn]
  simp only [Option.bind_some, asI_I]
  rw [if_pos trivial, if_pos (show kd (_, _) 0 = 9 from h.k), show M_X9_refuse [mR (some 0), mI 3] _ = _ from u_refuse h _ (k := 3) (by decide)]
  rfl
theorem u_remove {J : MJ} (h : KL J) (I : MI) {T : Nat} (hT : T ≤ 400) (hl : I 7 1 = nI T) (hy : (rowO I T).1 = 1) {X : MI} {J1 : MJ} (hk : M_X0_keep [mR (some 67), mR (some 16)] (tkn I T, J) = some (none, (X, J1))) (h1 : KL J1) : M_X9_remove [mR (some 0)] (I, J) = if 0 ≤ q_X8_removeAt 12 (vw 1 X 16) (vw 2 X 158) (vw 6 X 1) (vw 12 X 17) then some (some (mI (q_X8_removeAt 12 (vw 1 X 16) (vw 2 X 158) (vw 6 X 1) (vw 12 X 17))), (pt (pt X 1 (gU_X8_removeAt 12 (vw 1 X 16) (vw 2 X 158) (vw 6 X 1) (vw 12 X 17))) 17 (gV_X8_removeAt 12 (vw 1 X 16) (vw 2 X 158) (vw 6 X 1) (vw 12 X 17)), J1)) else some (some (mI (-1)), (rfz (pt (pt X 1 (gU_X8_removeAt 12 (vw 1 X 16) (vw 2 X 158) (vw 6 X 1) (vw 12 X 17))) 17 (gV_X8_removeAt 12 (vw 1 X 16) (vw 2 X 158) (vw 6 X 1) (vw 12 X 17))) 3, J1)) := by
  rw [E_X9_remove, if_pos (show kd (I, J) 0 = 9 from h.k), u_take h I hT hl, if_pos hy]
  simp only [Option.bind_some, asI_I]
  rw [if_neg (show ¬ (1 : Int32) = 0 by decide)]
  simp only [fR_ok 4 h.k, h.r4, fR_ok 2 h.k, h.r2, Option.bind_some]
  rw [if_pos (show kd (_, _) 67 = 0 from h.his.1), hk]
  simp only [Option.bind_some, asV_n, fR_ok 2 h1.k, h1.r2, fR_ok 6 h1.k, h1.r6, fR_ok 7 h1.k, h1.r7]
  rw [if_pos (show kd (_, _) 16 = 8 from h1.world.k), t_X8_removeAt h1.world h1.fir h1.nodes h1.mem (by decide) (by decide) (by decide) (by decide) (by decide) (by decide)]
  simp only [Option.bind_some, asI_I]
  rw [if_pos (show kd (_, _) 0 = 9 from h1.k), show M_X9_orRefuse [mR (some 0), mI _, mI 3] _ = _ from u_orRefuse h1 _ _ (k := 3) (by decide)]
  split <;> rfl
theorem u_rename_no {J : MJ} (h : KL J) (I : MI) {T : Nat} (hT : T ≤ 400) (hl : I 7 1 = nI T) (hn : ¬ (rowO I T).1 = 2) : M_X9_rename [mR (some 0)] (I, J) = some (some (mI (-1)), (rfz (tkn I T) 3, J)) := by
  rw [E_X9_rename, if_pos (show kd (I, J) 0 = 9 from h.k), u_take h I hT hl, if_neg hn]
  simp only [Option.bind_some, asI_I]
  rw [if_pos trivial, if_pos (show kd (_, _) 0 = 9 from h.k), show M_X9_refuse [mR (some 0), mI 3] _ = _ from u_refuse h _ (k := 3) (by decide)]
  rfl
theorem u_rename {J : MJ} (h : KL J) (I : MI) {T : Nat} (hT : T ≤ 400) (hl : I 7 1 = nI T) (hy : (rowO I T).1 = 2) {X : MI} {J1 : MJ} (hk : M_X0_keep [mR (some 67), mR (some 16)] (tkn I T, J) = some (none, (X, J1))) (h1 : KL J1) : M_X9_rename [mR (some 0)] (I, J) = if 0 ≤ q_X8_renameTo 12 12 (vw 1 X 16) (vw 2 X 160) (vw 2 X 158) (vw 6 X 1) (vw 12 X 17) then some (some (mI (q_X8_renameTo 12 12 (vw 1 X 16) (vw 2 X 160) (vw 2 X 158) (vw 6 X 1) (vw 12 X 17))), (pt (pt X 1 (gU_X8_renameTo 12 12 (vw 1 X 16) (vw 2 X 160) (vw 2 X 158) (vw 6 X 1) (vw 12 X 17))) 17 (gV_X8_renameTo 12 12 (vw 1 X 16) (vw 2 X 160) (vw 2 X 158) (vw 6 X 1) (vw 12 X 17)), J1)) else some (some (mI (-1)), (rfz (pt (pt X 1 (gU_X8_renameTo 12 12 (vw 1 X 16) (vw 2 X 160) (vw 2 X 158) (vw 6 X 1) (vw 12 X 17))) 17 (gV_X8_renameTo 12 12 (vw 1 X 16) (vw 2 X 160) (vw 2 X 158) (vw 6 X 1) (vw 12 X 17))) 3, J1)) := by
  rw [E_X9_rename, if_pos (show kd (I, J) 0 = 9 from h.k), u_take h I hT hl, if_pos hy]
  simp only [Option.bind_some, asI_I]
  rw [if_neg (show ¬ (1 : Int32) = 0 by decide)]
  simp only [fR_ok 4 h.k, h.r4, fR_ok 2 h.k, h.r2, Option.bind_some]
  rw [if_pos (show kd (_, _) 67 = 0 from h.his.1), hk]
  simp only [Option.bind_some, asV_n, fR_ok 2 h1.k, h1.r2, fR_ok 6 h1.k, h1.r6, fR_ok 7 h1.k, h1.r7]
  rw [if_pos (show kd (_, _) 16 = 8 from h1.world.k), t_X8_renameTo h1.world h1.sec h1.fir h1.nodes h1.mem (by decide) (by decide) (by decide) (by decide) (by decide) (by decide) (by decide) (by decide) (by decide) (by decide)]
  simp only [Option.bind_some, asI_I]
  rw [if_pos (show kd (_, _) 0 = 9 from h1.k), show M_X9_orRefuse [mR (some 0), mI _, mI 3] _ = _ from u_orRefuse h1 _ _ (k := 3) (by decide)]
  split <;> rfl
theorem u_make_no {J : MJ} (h : KL J) (I : MI) {T : Nat} (hT : T ≤ 400) (hl : I 7 1 = nI T) (x : Int32) (hn : ¬ (rowO I T).1 = 1) : M_X9_make [mR (some 0), mI x] (I, J) = some (some (mI (-1)), (rfz (tkn I T) 3, J)) := by
  rw [E_X9_make, if_pos (show kd (I, J) 0 = 9 from h.k), u_take h I hT hl, if_neg hn]
  simp only [Option.bind_some, asI_I]
  rw [if_pos trivial, if_pos (show kd (_, _) 0 = 9 from h.k), show M_X9_refuse [mR (some 0), mI 3] _ = _ from u_refuse h _ (k := 3) (by decide)]
  rfl
theorem u_make_full {J : MJ} (h : KL J) (I : MI) {T : Nat} (hT : T ≤ 400) (hl : I 7 1 = nI T) (x : Int32) (hy : (rowO I T).1 = 1) (hf : ¬ q_X2_isFull (vw 6 (tkn I T) 1) = 0) : M_X9_make [mR (some 0), mI x] (I, J) = some (some (mI (-1)), (rfz (tkn I T) 3, J)) := by
  rw [E_X9_make, if_pos (show kd (I, J) 0 = 9 from h.k), u_take h I hT hl, if_pos hy]
  simp only [Option.bind_some, asI_I]
  rw [if_neg (show ¬ (1 : Int32) = 0 by decide)]
  simp only [fR_ok 2 h.k, h.r2, fR_ok 0 h.world.k, h.world.r0, Option.bind_some]
  rw [if_pos (show kd (_, _) 1 = 2 from h.nodes.k), t_X2_isFull h.nodes]
  simp only [Option.bind_some, asI_I]
  rw [if_neg hf, if_pos (show kd (_, _) 0 = 9 from h.k), show M_X9_refuse [mR (some 0), mI 3] _ = _ from u_refuse h _ (k := 3) (by decide)]
  rfl
theorem u_make {J : MJ} (h : KL J) (I : MI) {T : Nat} (hT : T ≤ 400) (hl : I 7 1 = nI T) (x : Int32) (hy : (rowO I T).1 = 1) (hf : q_X2_isFull (vw 6 (tkn I T) 1) = 0) {X : MI} {J1 : MJ} (hk : M_X0_keep [mR (some 67), mR (some 16)] (tkn I T, J) = some (none, (X, J1))) (h1 : KL J1) : M_X9_make [mR (some 0), mI x] (I, J) = if 0 ≤ q_X8_makeAt 12 (vw 1 X 16) (vw 2 X 158) (vw 6 X 1) (vw 12 X 17) x then some (some (mI (q_X8_makeAt 12 (vw 1 X 16) (vw 2 X 158) (vw 6 X 1) (vw 12 X 17) x)), (pt (pt X 1 (gU_X8_makeAt 12 (vw 1 X 16) (vw 2 X 158) (vw 6 X 1) (vw 12 X 17) x)) 17 (gV_X8_makeAt 12 (vw 1 X 16) (vw 2 X 158) (vw 6 X 1) (vw 12 X 17) x), J1)) else some (some (mI (-1)), (rfz (pt (pt X 1 (gU_X8_makeAt 12 (vw 1 X 16) (vw 2 X 158) (vw 6 X 1) (vw 12 X 17) x)) 17 (gV_X8_makeAt 12 (vw 1 X 16) (vw 2 X 158) (vw 6 X 1) (vw 12 X 17) x)) 3, J1)) := by
  rw [E_X9_make, if_pos (show kd (I, J) 0 = 9 from h.k), u_take h I hT hl, if_pos hy]
  simp only [Option.bind_some, asI_I]
  rw [if_neg (show ¬ (1 : Int32) = 0 by decide)]
  simp only [fR_ok 2 h.k, h.r2, fR_ok 0 h.world.k, h.world.r0, Option.bind_some]
  rw [if_pos (show kd (_, _) 1 = 2 from h.nodes.k), t_X2_isFull h.nodes]
  simp only [Option.bind_some, asI_I]
  rw [if_pos hf]
  simp only [fR_ok 4 h.k, h.r4, fR_ok 2 h.k, h.r2, Option.bind_some]
  rw [if_pos (show kd (_, _) 67 = 0 from h.his.1), hk]
  simp only [Option.bind_some, asV_n, fR_ok 2 h1.k, h1.r2, fR_ok 6 h1.k, h1.r6, fR_ok 7 h1.k, h1.r7]
  rw [if_pos (show kd (_, _) 16 = 8 from h1.world.k), t_X8_makeAt h1.world h1.fir h1.nodes h1.mem (by decide) (by decide) (by decide) (by decide) (by decide) (by decide)]
  simp only [Option.bind_some, asI_I]
  rw [if_pos (show kd (_, _) 0 = 9 from h1.k), show M_X9_orRefuse [mR (some 0), mI _, mI 3] _ = _ from u_orRefuse h1 _ _ (k := 3) (by decide)]
  split <;> rfl
theorem u_open_no {J : MJ} (h : KL J) (I : MI) {T : Nat} (hT : T ≤ 400) (hl : I 7 1 = nI T) (hn : ¬ (rowO I T).1 = 1) : M_X9_open [mR (some 0)] (I, J) = some (some (mI (-1)), (rfz (tkn I T) 4, J)) := by
  rw [E_X9_open, if_pos (show kd (I, J) 0 = 9 from h.k), u_take h I hT hl, if_neg hn]
  simp only [Option.bind_some, asI_I]
  rw [if_pos trivial, if_pos (show kd (_, _) 0 = 9 from h.k), show M_X9_refuse [mR (some 0), mI 4] _ = _ from u_refuse h _ (k := 4) (by decide)]
  rfl
theorem u_open_full {J : MJ} (h : KL J) (I : MI) {T : Nat} (hT : T ≤ 400) (hl : I 7 1 = nI T) (hy : (rowO I T).1 = 1) (hf : q_X8_freeHandle (vw 1 (tkn I T) 16) (vw 1 (tkn I T) 29) = -1) : M_X9_open [mR (some 0)] (I, J) = some (some (mI (-1)), (rfz (tkn I T) 4, J)) := by
  rw [E_X9_open, if_pos (show kd (I, J) 0 = 9 from h.k), u_take h I hT hl, if_pos hy]
  simp only [Option.bind_some, asI_I]
  rw [if_neg (show ¬ (1 : Int32) = 0 by decide)]
  simp only [fR_ok 2 h.k, h.r2, Option.bind_some]
  rw [if_pos (show kd (_, _) 16 = 8 from h.world.k), t_X8_freeHandle h.world h.han (by decide)]
  simp only [Option.bind_some, asI_I]
  rw [if_pos hf, if_pos (show kd (_, _) 0 = 9 from h.k), show M_X9_refuse [mR (some 0), mI 4] _ = _ from u_refuse h _ (k := 4) (by decide)]
  rfl
theorem u_open {J : MJ} (h : KL J) (I : MI) {T : Nat} (hT : T ≤ 400) (hl : I 7 1 = nI T) (hy : (rowO I T).1 = 1) (hf : ¬ q_X8_freeHandle (vw 1 (tkn I T) 16) (vw 1 (tkn I T) 29) = -1) {X : MI} {J1 : MJ} (hk : M_X0_keep [mR (some 67), mR (some 16)] (tkn I T, J) = some (none, (X, J1))) (h1 : KL J1) : M_X9_open [mR (some 0)] (I, J) = if 0 ≤ q_X8_openAt 12 (vw 1 X 16) (vw 1 X 29) (vw 2 X 158) (vw 6 X 1) (vw 12 X 17) then some (some (mI (q_X8_openAt 12 (vw 1 X 16) (vw 1 X 29) (vw 2 X 158) (vw 6 X 1) (vw 12 X 17))), (pt (pt X 29 (gH_X8_openAt 12 (vw 1 X 16) (vw 1 X 29) (vw 2 X 158) (vw 6 X 1) (vw 12 X 17))) 17 (gV_X8_openAt 12 (vw 1 X 16) (vw 1 X 29) (vw 2 X 158) (vw 6 X 1) (vw 12 X 17)), J1)) else some (some (mI (-1)), (rfz (pt (pt X 29 (gH_X8_openAt 12 (vw 1 X 16) (vw 1 X 29) (vw 2 X 158) (vw 6 X 1) (vw 12 X 17))) 17 (gV_X8_openAt 12 (vw 1 X 16) (vw 1 X 29) (vw 2 X 158) (vw 6 X 1) (vw 12 X 17))) 4, J1)) := by
  rw [E_X9_open, if_pos (show kd (I, J) 0 = 9 from h.k), u_take h I hT hl, if_pos hy]
  simp only [Option.bind_some, asI_I]
  rw [if_neg (show ¬ (1 : Int32) = 0 by decide)]
  simp only [fR_ok 2 h.k, h.r2, Option.bind_some]
  rw [if_pos (show kd (_, _) 16 = 8 from h.world.k), t_X8_freeHandle h.world h.han (by decide)]
  simp only [Option.bind_some, asI_I]
  rw [if_neg hf]
  simp only [fR_ok 4 h.k, h.r4, fR_ok 2 h.k, h.r2, Option.bind_some]
  rw [if_pos (show kd (_, _) 67 = 0 from h.his.1), hk]
  simp only [Option.bind_some, asV_n, fR_ok 2 h1.k, h1.r2, fR_ok 6 h1.k, h1.r6, fR_ok 7 h1.k, h1.r7]
  rw [if_pos (show kd (_, _) 16 = 8 from h1.world.k), t_X8_openAt h1.world h1.han h1.fir h1.nodes h1.mem (by decide) (by decide) (by decide) (by decide) (by decide) (by decide) (by decide) (by decide) (by decide) (by decide)]
  simp only [Option.bind_some, asI_I]
  rw [if_pos (show kd (_, _) 0 = 9 from h1.k), show M_X9_orRefuse [mR (some 0), mI _, mI 4] _ = _ from u_orRefuse h1 _ _ (k := 4) (by decide)]
  split <;> rfl
theorem u_begin_no {J : MJ} (h : KL J) (I : MI) {T : Nat} (hT : T ≤ 400) (hl : I 7 1 = nI T) (hn : ¬ (rowO I T).1 = 1) : M_X9_begin [mR (some 0)] (I, J) = some (some (mI (-1)), (rfz (tkn I T) 5, J)) := by
  rw [E_X9_begin, if_pos (show kd (I, J) 0 = 9 from h.k), u_take h I hT hl, if_neg hn]
  simp only [Option.bind_some, asI_I]
  rw [if_pos trivial, if_pos (show kd (_, _) 0 = 9 from h.k), show M_X9_refuse [mR (some 0), mI 5] _ = _ from u_refuse h _ (k := 5) (by decide)]
  rfl
theorem u_begin_full {J : MJ} (h : KL J) (I : MI) {T : Nat} (hT : T ≤ 400) (hl : I 7 1 = nI T) (hy : (rowO I T).1 = 1) (hf : q_X8_freeWalker (tkn I T) 31 = -1) : M_X9_begin [mR (some 0)] (I, J) = some (some (mI (-1)), (rfz (tkn I T) 5, J)) := by
  rw [E_X9_begin, if_pos (show kd (I, J) 0 = 9 from h.k), u_take h I hT hl, if_pos hy]
  simp only [Option.bind_some, asI_I]
  rw [if_neg (show ¬ (1 : Int32) = 0 by decide)]
  simp only [fR_ok 2 h.k, h.r2, Option.bind_some]
  rw [if_pos (show kd (_, _) 16 = 8 from h.world.k), t_X8_freeWalker h.world h.wks]
  simp only [Option.bind_some, asI_I]
  rw [if_pos hf, if_pos (show kd (_, _) 0 = 9 from h.k), show M_X9_refuse [mR (some 0), mI 5] _ = _ from u_refuse h _ (k := 5) (by decide)]
  rfl
theorem u_begin {J : MJ} (h : KL J) (I : MI) {T : Nat} (hT : T ≤ 400) (hl : I 7 1 = nI T) (hy : (rowO I T).1 = 1) (hf : ¬ q_X8_freeWalker (tkn I T) 31 = -1) {X : MI} {J1 : MJ} (hk : M_X0_keep [mR (some 67), mR (some 16)] (tkn I T, J) = some (none, (X, J1))) (h1 : KL J1) : M_X9_begin [mR (some 0)] (I, J) = some (some (mI (q_X8_freeWalker X 31)), (h_X8_beginWalk X 158 12 31 17, J1)) := by
  rw [E_X9_begin, if_pos (show kd (I, J) 0 = 9 from h.k), u_take h I hT hl, if_pos hy]
  simp only [Option.bind_some, asI_I]
  rw [if_neg (show ¬ (1 : Int32) = 0 by decide)]
  simp only [fR_ok 2 h.k, h.r2, Option.bind_some]
  rw [if_pos (show kd (_, _) 16 = 8 from h.world.k), t_X8_freeWalker h.world h.wks]
  simp only [Option.bind_some, asI_I]
  rw [if_neg hf]
  simp only [fR_ok 4 h.k, h.r4, fR_ok 2 h.k, h.r2, Option.bind_some]
  rw [if_pos (show kd (_, _) 67 = 0 from h.his.1), hk]
  simp only [Option.bind_some, asV_n, fR_ok 2 h1.k, h1.r2, fR_ok 6 h1.k, h1.r6, fR_ok 7 h1.k, h1.r7]
  rw [if_pos (show kd (_, _) 16 = 8 from h1.world.k), t_X8_beginWalk h1.world h1.wks h1.mem h1.fir (by decide) (by decide) (by decide)]
  rfl
theorem u_mount_no {J : MJ} (h : KL J) (I : MI) {T : Nat} (hT : T ≤ 400) (hl : I 7 1 = nI T) (x : Int32) (hn : ¬ (rowO I T).1 = 1) : M_X9_mount [mR (some 0), mI x] (I, J) = some (some (mI (-1)), (rfz (tkn I T) 3, J)) := by
  rw [E_X9_mount, if_pos (show kd (I, J) 0 = 9 from h.k), u_take h I hT hl, if_neg hn]
  simp only [Option.bind_some, asI_I]
  rw [if_pos trivial, if_pos (show kd (_, _) 0 = 9 from h.k), show M_X9_refuse [mR (some 0), mI 3] _ = _ from u_refuse h _ (k := 3) (by decide)]
  rfl
theorem u_mount_vol {J : MJ} (h : KL J) (I : MI) {T : Nat} (hT : T ≤ 400) (hl : I 7 1 = nI T) (x : Int32) (hy : (rowO I T).1 = 1) (hv : q_X2_hasVolume (vw 6 (tkn I T) 1) x = 0) : M_X9_mount [mR (some 0), mI x] (I, J) = some (some (mI (-1)), (rfz (tkn I T) 3, J)) := by
  rw [E_X9_mount, if_pos (show kd (I, J) 0 = 9 from h.k), u_take h I hT hl, if_pos hy]
  simp only [Option.bind_some, asI_I]
  rw [if_neg (show ¬ (1 : Int32) = 0 by decide)]
  simp only [fR_ok 2 h.k, h.r2, fR_ok 0 h.world.k, h.world.r0, Option.bind_some]
  rw [if_pos (show kd (_, _) 1 = 2 from h.nodes.k), t_X2_hasVolume h.nodes]
  simp only [Option.bind_some, asI_I]
  rw [if_pos hv, if_pos (show kd (_, _) 0 = 9 from h.k), show M_X9_refuse [mR (some 0), mI 3] _ = _ from u_refuse h _ (k := 3) (by decide)]
  rfl
theorem u_mount_is {J : MJ} (h : KL J) (I : MI) {T : Nat} (hT : T ≤ 400) (hl : I 7 1 = nI T) (x : Int32) (hy : (rowO I T).1 = 1) (hv : ¬ q_X2_hasVolume (vw 6 (tkn I T) 1) x = 0) (hm : ¬ q_X1_isMounted (vw 12 (tkn I T) 17) x = 0) : M_X9_mount [mR (some 0), mI x] (I, J) = some (some (mI (-1)), (rfz (tkn I T) 3, J)) := by
  rw [E_X9_mount, if_pos (show kd (I, J) 0 = 9 from h.k), u_take h I hT hl, if_pos hy]
  simp only [Option.bind_some, asI_I]
  rw [if_neg (show ¬ (1 : Int32) = 0 by decide)]
  simp only [fR_ok 2 h.k, h.r2, fR_ok 0 h.world.k, h.world.r0, Option.bind_some]
  rw [if_pos (show kd (_, _) 1 = 2 from h.nodes.k), t_X2_hasVolume h.nodes]
  simp only [Option.bind_some, asI_I]
  rw [if_neg hv]
  simp only [fR_ok 2 h.k, h.r2, fR_ok 1 h.world.k, h.world.r1, Option.bind_some]
  rw [if_pos (show kd (_, _) 17 = 1 from h.mem.k), t_X1_isMounted h.mem]
  simp only [Option.bind_some, asI_I]
  rw [if_neg hm, if_pos (show kd (_, _) 0 = 9 from h.k), show M_X9_refuse [mR (some 0), mI 3] _ = _ from u_refuse h _ (k := 3) (by decide)]
  rfl
theorem u_mount {J : MJ} (h : KL J) (I : MI) {T : Nat} (hT : T ≤ 400) (hl : I 7 1 = nI T) (x : Int32) (hy : (rowO I T).1 = 1) (hv : ¬ q_X2_hasVolume (vw 6 (tkn I T) 1) x = 0) (hm : q_X1_isMounted (vw 12 (tkn I T) 17) x = 0) {X : MI} {J1 : MJ} (hk : M_X0_keep [mR (some 67), mR (some 16)] (tkn I T, J) = some (none, (X, J1))) (h1 : KL J1) : M_X9_mount [mR (some 0), mI x] (I, J) = if 0 ≤ q_X8_mountAt 12 (vw 1 X 16) (vw 2 X 158) (vw 6 X 1) (vw 12 X 17) x then some (some (mI (q_X8_mountAt 12 (vw 1 X 16) (vw 2 X 158) (vw 6 X 1) (vw 12 X 17) x)), (pt X 17 (gV_X8_mountAt 12 (vw 1 X 16) (vw 2 X 158) (vw 6 X 1) (vw 12 X 17) x), J1)) else some (some (mI (-1)), (rfz (pt X 17 (gV_X8_mountAt 12 (vw 1 X 16) (vw 2 X 158) (vw 6 X 1) (vw 12 X 17) x)) 3, J1)) := by
  rw [E_X9_mount, if_pos (show kd (I, J) 0 = 9 from h.k), u_take h I hT hl, if_pos hy]
  simp only [Option.bind_some, asI_I]
  rw [if_neg (show ¬ (1 : Int32) = 0 by decide)]
  simp only [fR_ok 2 h.k, h.r2, fR_ok 0 h.world.k, h.world.r0, Option.bind_some]
  rw [if_pos (show kd (_, _) 1 = 2 from h.nodes.k), t_X2_hasVolume h.nodes]
  simp only [Option.bind_some, asI_I]
  rw [if_neg hv]
  simp only [fR_ok 2 h.k, h.r2, fR_ok 1 h.world.k, h.world.r1, Option.bind_some]
  rw [if_pos (show kd (_, _) 17 = 1 from h.mem.k), t_X1_isMounted h.mem]
  simp only [Option.bind_some, asI_I]
  rw [if_pos hm]
  simp only [fR_ok 4 h.k, h.r4, fR_ok 2 h.k, h.r2, Option.bind_some]
  rw [if_pos (show kd (_, _) 67 = 0 from h.his.1), hk]
  simp only [Option.bind_some, asV_n, fR_ok 2 h1.k, h1.r2, fR_ok 6 h1.k, h1.r6, fR_ok 7 h1.k, h1.r7]
  rw [if_pos (show kd (_, _) 16 = 8 from h1.world.k), t_X8_mountAt h1.world h1.fir h1.nodes h1.mem (by decide) (by decide) (by decide) (by decide) (by decide) (by decide)]
  simp only [Option.bind_some, asI_I]
  rw [if_pos (show kd (_, _) 0 = 9 from h1.k), show M_X9_orRefuse [mR (some 0), mI _, mI 3] _ = _ from u_orRefuse h1 _ _ (k := 3) (by decide)]
  split <;> rfl
end
section
/-! Public calls of the class, the last. -/
theorem u_close_no {J : MJ} (h : KL J) (I : MI) (x : Int32) (hn : q_X8_handleAt (vw 1 I 16) (vw 1 I 29) x = -1) : M_X9_close [mR (some 0), mI x] (I, J) = some (some (mI 0), (rfz I 4, J)) := by
  rw [E_X9_close]
  simp only [fR_ok 2 h.k, h.r2, Option.bind_some]
  rw [if_pos (show kd (I, J) 16 = 8 from h.world.k), t_X8_handleAt h.world h.han (by decide) I, hn]
  simp only [Option.bind_some, asI_I]
  rw [if_pos trivial, if_pos (show kd (I, J) 0 = 9 from h.k), show M_X9_refuseFlatly [mR (some 0), mI 4] _ = _ from u_refuseFlatly h I (k := 4) (by decide)]
  simp [asI]
theorem u_close {J : MJ} (h : KL J) (I : MI) (x : Int32) (hn : ¬ q_X8_handleAt (vw 1 I 16) (vw 1 I 29) x = -1) {X : MI} {J1 : MJ} (hk : M_X0_keep [mR (some 67), mR (some 16)] (I, J) = some (none, (X, J1))) (h1 : KL J1) : M_X9_close [mR (some 0), mI x] (I, J) = some (some (mI 1), (pt (pt X 29 (gH_X8_closeHandle (vw 1 X 16) (vw 1 X 29) (vw 12 X 17) x)) 17 (gV_X8_closeHandle (vw 1 X 16) (vw 1 X 29) (vw 12 X 17) x), J1)) := by
  rw [E_X9_close]
  simp only [fR_ok 2 h.k, h.r2, Option.bind_some]
  rw [if_pos (show kd (I, J) 16 = 8 from h.world.k), t_X8_handleAt h.world h.han (by decide) I]
  simp only [Option.bind_some, asI_I]
  rw [if_neg hn]
  simp only [fR_ok 4 h.k, h.r4, fR_ok 2 h.k, h.r2, Option.bind_some]
  rw [if_pos (show kd (_, _) 67 = 0 from h.his.1), hk]
  simp only [Option.bind_some, asV_n, fR_ok 2 h1.k, h1.r2]
  rw [if_pos (show kd (_, _) 16 = 8 from h1.world.k), t_X8_closeHandle h1.world h1.han h1.mem (by decide) (by decide) (by decide)]
  simp [asV]
theorem u_unmount_no {J : MJ} (h : KL J) (I : MI) (x : Int32) (hn : x = 0 ∨ q_X1_isMounted (vw 12 I 17) x = 0 ∨ ¬ q_X1_isBusy (vw 6 I 1) (vw 12 I 17) x = 0) : M_X9_unmount [mR (some 0), mI x] (I, J) = some (some (mI (-1)), (rfz I 3, J)) := by
  have r := show M_X9_refuse [mR (some 0), mI 3] (I, J) = _ from u_refuse h I (k := 3) (by decide)
  have k9 : kd (I, J) 0 = 9 := h.k
  have k1 : kd (I, J) 17 = 1 := h.mem.k
  rw [E_X9_unmount]
  by_cases a : x = 0
  · rw [if_pos a, if_pos k9, r]; rfl
  · rw [if_neg a]
    simp only [fR_ok 2 h.k, h.r2, fR_ok 1 h.world.k, h.world.r1, Option.bind_some, if_pos k1, t_X1_isMounted h.mem I, asI_I]
    by_cases b : q_X1_isMounted (vw 12 I 17) x = 0
    · rw [if_pos b, if_pos k9, r]; rfl
    · rw [if_neg b, t_X1_isBusy h.nodes h.mem (by decide) I]
      simp only [Option.bind_some, asI_I]
      rw [if_neg (hn.elim (fun q => absurd q a) (fun q => q.elim (fun q => absurd q b) id)), if_pos k9, r]
      rfl
theorem u_unmount {J : MJ} (h : KL J) (I : MI) (x : Int32) (a : ¬ x = 0) (b : ¬ q_X1_isMounted (vw 12 I 17) x = 0) (c : q_X1_isBusy (vw 6 I 1) (vw 12 I 17) x = 0) {X : MI} {J1 : MJ} (hk : M_X0_keep [mR (some 67), mR (some 16)] (I, J) = some (none, (X, J1))) (h1 : KL J1) : M_X9_unmount [mR (some 0), mI x] (I, J) = some (some (mI (q_X1_dropVolume (vw 6 X 1) (vw 12 X 17) x)), (pt X 17 (gV_X1_dropVolume (vw 6 X 1) (vw 12 X 17) x), J1)) := by
  have k1 : kd (I, J) 17 = 1 := h.mem.k
  rw [E_X9_unmount, if_neg a]
  simp only [fR_ok 2 h.k, h.r2, fR_ok 1 h.world.k, h.world.r1, Option.bind_some, if_pos k1, t_X1_isMounted h.mem I, asI_I]
  rw [if_neg b, t_X1_isBusy h.nodes h.mem (by decide) I]
  simp only [Option.bind_some, asI_I]
  rw [if_pos c]
  simp only [fR_ok 4 h.k, h.r4, fR_ok 2 h.k, h.r2, Option.bind_some]
  rw [if_pos (show kd (_, _) 67 = 0 from h.his.1), hk]
  simp only [Option.bind_some, asV_n, fR_ok 2 h1.k, h1.r2, fR_ok 1 h1.world.k, h1.world.r1]
  rw [if_pos (show kd (_, _) 17 = 1 from h1.mem.k), t_X1_dropVolume h1.nodes h1.mem (by decide)]
  rfl
theorem u_trim_no {J : MJ} (h : KL J) (I : MI) (x : Int32) (hn : I 1 6 ≤ 0 ∨ x < 1 ∨ ¬ x ≤ 100) : M_X9_trim [mR (some 0), mI x] (I, J) = some (some (mI (-1)), (rfz I 2, J)) := by
  have r := show M_X9_refuse [mR (some 0), mI 2] (I, J) = _ from u_refuse h I (k := 2) (by decide)
  have k9 : kd (I, J) 0 = 9 := h.k
  rw [E_X9_trim, if_pos k9, u_hasTrees h I]
  simp only [Option.bind_some, asI_I, if_pos k9, r]
  by_cases a : I 1 6 ≤ 0
  · rw [if_pos a, if_pos rfl]
  · rw [if_neg a, if_neg (show ¬ (1 : Int32) = 0 by decide)]
    by_cases b : x < 1
    · rw [if_pos b]
    · rw [if_neg b, if_neg (hn.elim (fun q => absurd q a) (fun q => q.elim (fun q => absurd q b) id))]
theorem u_trim {J : MJ} (h : KL J) (I : MI) (x : Int32) (a : ¬ I 1 6 ≤ 0) (b : ¬ x < 1) (c : x ≤ 100) {X : MI} {J1 : MJ} (hk : M_X0_keep [mR (some 67), mR (some 16)] (I, J) = some (none, (X, J1))) (h1 : KL J1) : M_X9_trim [mR (some 0), mI x] (I, J) = some (some (mI (q_X1_trimSome (vw 12 X 17) x)), (pt X 17 (gV_X1_trimSome (vw 12 X 17) x), J1)) := by
  rw [E_X9_trim, if_pos (show kd (I, J) 0 = 9 from h.k), u_hasTrees h I, if_neg a]
  simp only [Option.bind_some, asI_I]
  rw [if_neg (show ¬ (1 : Int32) = 0 by decide), if_neg b, if_pos c]
  simp only [fR_ok 4 h.k, h.r4, fR_ok 2 h.k, h.r2, Option.bind_some]
  rw [if_pos (show kd (_, _) 67 = 0 from h.his.1), hk]
  simp only [Option.bind_some, asV_n, fR_ok 2 h1.k, h1.r2, fR_ok 1 h1.world.k, h1.world.r1]
  rw [if_pos (show kd (_, _) 17 = 1 from h1.mem.k), t_X1_trimSome h1.mem]
  rfl
theorem u_room_no {J : MJ} (h : KL J) (I : MI) (x : Int32) (hn : I 1 6 ≤ 0 ∨ x < 4 ∨ 40 < x ∨ x = I 17 11) : M_X9_room [mR (some 0), mI x] (I, J) = some (some (mI 0), (rfz I 2, J)) := by
  have r := show M_X9_refuseFlatly [mR (some 0), mI 2] (I, J) = _ from u_refuseFlatly h I (k := 2) (by decide)
  have k9 : kd (I, J) 0 = 9 := h.k
  have e : (if (0 : Int32) = 0 ∨ (0 : Int32) = 1 then some (some (mI 0), (rfz I 2, J)) else (none : Option MO)) = some (some (mI 0), (rfz I 2, J)) := if_pos (Or.inl rfl)
  rw [E_X9_room, if_pos k9, u_hasTrees h I, Option.bind_some]
  show (if (if I 1 6 ≤ 0 then (0 : Int32) else 1) = 0 then _ else _) = _
  by_cases a : I 1 6 ≤ 0
  · rw [if_pos a, if_pos rfl, if_pos k9, r]
    exact e
  · rw [if_neg a, if_neg (show ¬ (1 : Int32) = 0 by decide)]
    show (M_X9_isRoom [mI x] (I, J)).bind _ = _
    rw [u_isRoom, Option.bind_some]
    show (if (if x < 4 then (0 : Int32) else if 40 < x then 0 else 1) = 0 then _ else _) = _
    by_cases b : x < 4
    · rw [if_pos b, if_pos rfl, if_pos k9, r]
      exact e
    · rw [if_neg b]
      by_cases c : 40 < x
      · rw [if_pos c, if_pos rfl, if_pos k9, r]
        exact e
      · rw [if_neg c, if_neg (show ¬ (1 : Int32) = 0 by decide)]
        simp only [fR_ok 2 h.k, h.r2, fR_ok 1 h.world.k, h.world.r1, Option.bind_some, fI_ok 11 h.mem.k]
        rw [if_pos (hn.elim (fun q => absurd q a) (fun q => q.elim (fun q => absurd q b) (fun q => q.elim (fun q => absurd q c) id))), if_pos k9, r]
        exact e
theorem u_room {J : MJ} (h : KL J) (I : MI) (x : Int32) (a : ¬ I 1 6 ≤ 0) (b : ¬ x < 4) (c : ¬ 40 < x) (d : ¬ x = I 17 11) {X : MI} {J1 : MJ} (hk : M_X0_keep [mR (some 67), mR (some 16)] (I, J) = some (none, (X, J1))) (h1 : KL J1) : M_X9_room [mR (some 0), mI x] (I, J) = some (some (mI 1), (up2 X 17 11 x, J1)) := by
  rw [E_X9_room, if_pos (show kd (I, J) 0 = 9 from h.k), u_hasTrees h I, if_neg a]
  simp only [Option.bind_some, asI_I, u_isRoom]
  rw [if_neg (show ¬ (1 : Int32) = 0 by decide), if_neg b, if_neg c, if_neg (show ¬ (1 : Int32) = 0 by decide)]
  simp only [fR_ok 2 h.k, h.r2, fR_ok 1 h.world.k, h.world.r1, Option.bind_some, fI_ok 11 h.mem.k]
  rw [if_neg d]
  simp only [fR_ok 4 h.k, h.r4, fR_ok 2 h.k, h.r2, Option.bind_some]
  rw [if_pos (show kd (_, _) 67 = 0 from h.his.1), hk]
  simp only [Option.bind_some, asV_n, fR_ok 2 h1.k, h1.r2, fR_ok 1 h1.world.k, h1.world.r1, wI_ok 11 _ h1.mem.k]
  simp
theorem u_quit_no {J : MJ} (h : KL J) (I : MI) (x : Int32) (hn : q_X8_walkerAt I 31 x = none) : M_X9_quit [mR (some 0), mI x] (I, J) = some (some (mI 0), (rfz I 5, J)) := by
  rw [E_X9_quit]
  simp only [fR_ok 2 h.k, h.r2, Option.bind_some]
  rw [if_pos (show kd (I, J) 16 = 8 from h.world.k), t_X8_walkerAt h.world h.wks I, hn]
  simp only [Option.bind_some, asR_R, cR_n]
  rw [if_pos (show kd (I, J) 0 = 9 from h.k), show M_X9_refuseFlatly [mR (some 0), mI 5] _ = _ from u_refuseFlatly h I (k := 5) (by decide)]
  simp [asI]
/-- a walker has stopped -/
def stpI (X : MI) (w : Nat) : MI := pt (pt X w (gK_X7_stop (vw 1 X w) (vw 3 X (w + 3)) (vw 12 X 17))) 17 (gV_X7_stop (vw 1 X w) (vw 3 X (w + 3)) (vw 12 X 17))
theorem u_quit {J : MJ} (h : KL J) (I : MI) (x : Int32) {k : Nat} (hn : q_X8_walkerAt I 31 x = some (31 + 6 * k)) (hk4 : k < 4) {X : MI} {J1 : MJ} (hk : M_X0_keep [mR (some 67), mR (some 16)] (I, J) = some (none, (X, J1))) (h1 : KL J1) : M_X9_quit [mR (some 0), mI x] (I, J) = some (some (mI 1), (stpI X (31 + 6 * k), J1)) := by
  have q := h1.wks.2 k hk4
  rw [E_X9_quit]
  simp only [fR_ok 2 h.k, h.r2, Option.bind_some]
  rw [if_pos (show kd (I, J) 16 = 8 from h.world.k), t_X8_walkerAt h.world h.wks I, hn]
  simp only [Option.bind_some, asR_R, cR_s, fR_ok 4 h.k, h.r4, fR_ok 2 h.k, h.r2]
  rw [if_pos (show kd (_, _) 67 = 0 from h.his.1), hk]
  simp only [Option.bind_some, asV_n, fR_ok 2 h1.k, h1.r2, fR_ok 1 h1.world.k, h1.world.r1]
  rw [if_pos (show kd (_, _) (31 + 6 * k) = 7 from q.2.1.k), t_X7_stop q.2.1 q.2.2.2 h1.mem (by omega) (by omega) (by omega)]
  simp [asV, stpI]
theorem u_step_no {J : MJ} (h : KL J) (I : MI) (x : Int32) (hn : q_X8_walkerAt I 31 x = none) : M_X9_step [mR (some 0), mI x] (I, J) = some (some (mI (-1)), (rfz I 5, J)) := by
  rw [E_X9_step]
  simp only [fR_ok 2 h.k, h.r2, Option.bind_some]
  rw [if_pos (show kd (I, J) 16 = 8 from h.world.k), t_X8_walkerAt h.world h.wks I, hn]
  simp only [Option.bind_some, asR_R, cR_n]
  rw [if_pos (show kd (I, J) 0 = 9 from h.k), show M_X9_refuse [mR (some 0), mI 5] _ = _ from u_refuse h I (k := 5) (by decide)]
  rfl
def goI (X : MI) (w : Nat) : MI := pt (pt (pt X w (gK_X7_goOn 12 (vw 1 X w) (vw 2 X (w + 1)) (vw 3 X (w + 3)) (vw 6 X 1) (vw 12 X 17))) (w + 3) (gB_X7_goOn 12 (vw 1 X w) (vw 2 X (w + 1)) (vw 3 X (w + 3)) (vw 6 X 1) (vw 12 X 17))) 17 (gV_X7_goOn 12 (vw 1 X w) (vw 2 X (w + 1)) (vw 3 X (w + 3)) (vw 6 X 1) (vw 12 X 17))
def goQ (X : MI) (w : Nat) : Int32 := q_X7_goOn 12 (vw 1 X w) (vw 2 X (w + 1)) (vw 3 X (w + 3)) (vw 6 X 1) (vw 12 X 17)
theorem u_step {J : MJ} (h : KL J) (I : MI) (x : Int32) {k : Nat} (hn : q_X8_walkerAt I 31 x = some (31 + 6 * k)) (hk4 : k < 4) {X : MI} {J1 : MJ} (hk : M_X0_keep [mR (some 67), mR (some 16)] (I, J) = some (none, (X, J1))) (h1 : KL J1) : M_X9_step [mR (some 0), mI x] (I, J) = if goQ X (31 + 6 * k) < 0 then some (some (mI (goQ X (31 + 6 * k))), (stpI (tlo (goI X (31 + 6 * k)) (31 + 6 * k) (goQ X (31 + 6 * k))) (31 + 6 * k), J1)) else if q_X7_isThrough 12 (vw 1 (goI X (31 + 6 * k)) (31 + 6 * k)) (vw 2 (goI X (31 + 6 * k)) (31 + 6 * k + 1)) = 0 then some (some (mI 0), (goI X (31 + 6 * k), J1)) else some (some (mI 1), (stpI (tlo (goI X (31 + 6 * k)) (31 + 6 * k) (goQ X (31 + 6 * k))) (31 + 6 * k), J1)) := by
  have q := h1.wks.2 k hk4
  have k7 : ∀ X : MI, kd (X, J1) (31 + 6 * k) = 7 := fun X => q.2.1.k
  have stp : ∀ X : MI, M_X7_stop [mR (some (31 + 6 * k)), mR (some 17)] (X, J1) = some (none, (stpI X (31 + 6 * k), J1)) := fun X => t_X7_stop q.2.1 q.2.2.2 h1.mem (by omega) (by omega) (by omega) X
  rw [E_X9_step]
  simp only [fR_ok 2 h.k, h.r2, Option.bind_some]
  rw [if_pos (show kd (I, J) 16 = 8 from h.world.k), t_X8_walkerAt h.world h.wks I, hn]
  simp only [Option.bind_some, asR_R, cR_s, fR_ok 4 h.k, h.r4, fR_ok 2 h.k, h.r2]
  rw [if_pos (show kd (_, _) 67 = 0 from h.his.1), hk]
  simp only [Option.bind_some, asV_n, fR_ok 2 h1.k, h1.r2, fR_ok 1 h1.world.k, h1.world.r1]
  rw [if_pos (k7 X), show M_X7_goOn [mR (some (31 + 6 * k)), mR (some 17)] (X, J1) = some (some (mI (goQ X (31 + 6 * k))), (goI X (31 + 6 * k), J1)) from t_X7_goOn q.2.1 q.2.2.1 q.2.2.2 h1.nodes h1.mem (by omega) (by omega) (by omega) (by omega) (by omega) (by omega) (by omega) (by omega) (by omega) (by omega) X]
  simp only [Option.bind_some, asI_I]
  generalize goI X (31 + 6 * k) = Y
  generalize goQ X (31 + 6 * k) = v
  by_cases a : v < 0
  · rw [if_pos a, if_pos a, if_pos (show kd (Y, J1) 0 = 9 from h1.k), u_tellOutcome h1 Y (k7 Y) (by omega) (by omega)]
    simp only [Option.bind_some, asV_n, fR_ok 2 h1.k, h1.r2, fR_ok 1 h1.world.k, h1.world.r1]
    rw [if_pos (k7 _), stp]
    simp only [Option.bind_some, asV_n]
    rw [if_neg (Int32.not_le.mpr a)]
  · rw [if_neg a, if_neg a, if_pos (k7 Y), t_X7_isThrough q.2.1 q.2.2.1 (by omega)]
    simp only [Option.bind_some, asI_I]
    by_cases b : q_X7_isThrough 12 (vw 1 Y (31 + 6 * k)) (vw 2 Y (31 + 6 * k + 1)) = 0
    · rw [if_pos b, if_pos b]
    · rw [if_neg b, if_neg b, if_pos (show kd (Y, J1) 0 = 9 from h1.k), u_tellOutcome h1 Y (k7 Y) (by omega) (by omega)]
      simp only [Option.bind_some, asV_n, fR_ok 2 h1.k, h1.r2, fR_ok 1 h1.world.k, h1.world.r1]
      rw [if_pos (k7 _), stp]
      simp only [Option.bind_some, asV_n]
      rw [if_pos (Int32.not_lt.mp a)]
end
section
/-! Public calls: trees, traces, undo, chance. -/
theorem u_trace_no {J : MJ} (h : KL J) (I : MI) {T : Nat} (hT : T ≤ 400) (hl : I 7 1 = nI T) (hn : (rowO I T).1 = -1) : M_X9_trace [mR (some 0)] (I, J) = some (some (mI (-1)), (rfz (tkn I T) 5, J)) := by
  rw [E_X9_trace, if_pos (show kd (I, J) 0 = 9 from h.k), show M_X9_takeRow [mR (some 0)] (I, J) = some (some (mI (rowO I T).1), (tkn I T, J)) from u_takeRow h I hT hl, hn]
  simp only [Option.bind_some, asI_I]
  rw [if_pos trivial, if_pos (show kd (_, _) 0 = 9 from h.k), show M_X9_refuse [mR (some 0), mI 5] _ = _ from u_refuse h _ (k := 5) (by decide)]
  rfl
theorem u_trace {J : MJ} (h : KL J) (I : MI) {T c : Nat} (hT : T ≤ 400) (hl : I 7 1 = nI T) (hn : (rowO I T).1 = nI c) (hc : c ≤ 12) : M_X9_trace [mR (some 0)] (I, J) = some (some (mI (nI c)), (bcm (tkn I T) 69 158 c, J)) := by
  rw [E_X9_trace, if_pos (show kd (I, J) 0 = 9 from h.k), show M_X9_takeRow [mR (some 0)] (I, J) = some (some (mI (rowO I T).1), (tkn I T, J)) from u_takeRow h I hT hl, hn]
  simp only [Option.bind_some, asI_I]
  rw [if_neg (fun q => by
    have := congrArg Int32.toInt q
    rw [nI_toInt (by omega)] at this
    have e0 : (-1 : Int32).toInt = -1 := rfl
    omega)]
  simp only [fR_ok 5 h.k, h.r5, fR_ok 8 h.k, h.r8, Option.bind_some]
  rw [if_pos (show kd (_, _) 69 = 6 from h.trc.k), show M_X6_become [mR (some 69), mR (some 162), mI (nI c)] (tkn I T, J) = _ from t_X6_become h.trc h.tol (by decide) (tkn I T) hc]
  rfl
theorem u_loads_no {J : MJ} (h : KL J) (I : MI) (x : Int32) (hn : x < 4 ∨ 40 < x ∨ I 69 1 ≤ 0) : M_X9_loads [mR (some 0), mI x] (I, J) = some (some (mI (-1)), (I, J)) := by
  rw [E_X9_loads, u_isRoom, Option.bind_some]
  show (if (if x < 4 then (0 : Int32) else if 40 < x then 0 else 1) = 0 then _ else _) = _
  by_cases b : x < 4
  · rw [if_pos b, if_pos rfl]
  · rw [if_neg b]
    by_cases c : 40 < x
    · rw [if_pos c, if_pos rfl]
    · rw [if_neg c, if_neg (show ¬ (1 : Int32) = 0 by decide)]
      simp only [fR_ok 5 h.k, h.r5, Option.bind_some, fI_ok 1 h.trc.k]
      rw [if_pos (hn.elim (fun q => absurd q b) (fun q => q.elim (fun q => absurd q c) id))]
theorem u_loads {J : MJ} (h : KL J) (I : MI) {r L : Nat} (hr : r < 37) (hL : I 69 1 = nI L) (hl : L ≤ 12) (h0 : L ≠ 0) : M_X9_loads [mR (some 0), mI (nI (4 + r))] (I, J) = some (some (mI (rI (prep I 69 17) 69 1 r L 133 r)), (rI (prep I 69 17) 69 1 r L, J)) := by
  rw [E_X9_loads, u_isRoom, if_neg (by rw [i32_lt, nI_toInt (by omega)]; exact fun q => absurd q (by show ¬ (((4 + r : Nat) : Int) < 4); omega)), if_neg (by rw [i32_lt, nI_toInt (by omega)]; exact fun q => absurd q (by show ¬ ((40 : Int) < ((4 + r : Nat) : Int)); omega))]
  simp only [Option.bind_some, asI_I]
  rw [if_neg (show ¬ (1 : Int32) = 0 by decide)]
  simp only [fR_ok 5 h.k, h.r5, Option.bind_some, fI_ok 1 h.trc.k, hL]
  rw [if_neg (by rw [i32_le, nI_toInt (by omega)]; exact fun q => h0 (by have : (0 : Int32).toInt = 0 := rfl; omega))]
  simp only [fR_ok 2 h.k, h.r2, fR_ok 1 h.world.k, h.world.r1, Option.bind_some]
  rw [if_pos (show kd (I, J) 69 = 6 from h.trc.k), t_X6_loadsBy h.trc h.mem (by decide) I hL hl hr]
  rfl
/-- the heap when all rooms have been run -/
def allI (I : MI) (L : Nat) : MI := (rall (prep I 69 17) 69 1 L).2
theorem u_runAll {J : MJ} (h : KL J) (I : MI) {L : Nat} (hL : I 69 1 = nI L) (hl : L ≤ 12) : M_X6_runAll [mR (some 69), mR (some 17)] (I, J) = if L = 0 then some (some (mI 0), (I, J)) else some (some (mI 1), (allI I L, J)) := t_X6_runAll h.trc h.mem (by decide) I hL hl
theorem allI_out (I : MI) (L x : Nat) (hx : x ≠ 133) (h1 : x < 70 ∨ 133 ≤ x ∨ (94 ≤ x ∧ x < 96)) : allI I L x = I x := by
  have out : ∀ (f k : Nat) (s : Int32 × MI), k + f = 37 → (itr (fun r s => astep 69 1 L r s) k f s).2 x = s.2 x := by
    intro f
    induction f with
    | zero => intro k s _; rfl
    | succ f ih =>
      intro k s hk
      show (itr (fun r s => astep 69 1 L r s) (k + 1) f (astep 69 1 L k s)).2 x = _
      rw [ih _ _ (by omega), astep_out _ _ _ _ _ _ (by omega) (by omega) (by omega)]
  unfold allI rall
  rw [out 37 0 _ rfl]
  show prep I 69 17 x = I x
  unfold prep
  rw [pt_out (x := x) (by omega)]
theorem u_least {J : MJ} (h : KL J) (I : MI) (x : Int32) {L : Nat} (hL : I 69 1 = nI L) (hl : L ≤ 12) : M_X9_least [mR (some 0), mI x] (I, J) = if L = 0 then some (some (mI (-1)), (I, J)) else some (some (mI (q_X6_leastRoom (allI I L) 69 x)), (allI I L, J)) := by
  rw [E_X9_least]
  simp only [fR_ok 5 h.k, h.r5, fR_ok 2 h.k, h.r2, fR_ok 1 h.world.k, h.world.r1, Option.bind_some]
  rw [if_pos (show kd (I, J) 69 = 6 from h.trc.k), u_runAll h I hL hl]
  by_cases a : L = 0
  · simp only [if_pos a, Option.bind_some, asI_I]
    rfl
  · simp only [if_neg a, Option.bind_some, asI_I]
    rw [if_neg (show ¬ (1 : Int32) = 0 by decide)]
    simp only [fR_ok 5 h.k, h.r5, Option.bind_some]
    rw [if_pos (show kd (_, _) 69 = 6 from h.trc.k), t_X6_leastRoom h.trc]
    rfl
theorem u_fitsQ {J : MJ} (h : KL J) (I : MI) (x : Int32) {L : Nat} (hL : I 69 1 = nI L) (hl : L ≤ 12) : M_X9_fits [mR (some 0), mI x] (I, J) = if L = 0 then some (some (mI (-1)), (I, J)) else some (some (mI (lp_fitting (allI I L) 69 x 37 0 0)), (allI I L, J)) := by
  rw [E_X9_fits]
  simp only [fR_ok 5 h.k, h.r5, fR_ok 2 h.k, h.r2, fR_ok 1 h.world.k, h.world.r1, Option.bind_some]
  rw [if_pos (show kd (I, J) 69 = 6 from h.trc.k), u_runAll h I hL hl]
  by_cases a : L = 0
  · simp only [if_pos a, Option.bind_some, asI_I]
    rfl
  · simp only [if_neg a, Option.bind_some, asI_I]
    rw [if_neg (show ¬ (1 : Int32) = 0 by decide)]
    simp only [fR_ok 5 h.k, h.r5, Option.bind_some]
    rw [if_pos (show kd (_, _) 69 = 6 from h.trc.k), t_X6_fitting h.trc]
    rfl
theorem u_tells {J : MJ} (h : KL J) (I : MI) (x : Int32) {L : Nat} (hL : I 69 1 = nI L) (hl : L ≤ 12) : M_X9_tells [mR (some 0), mI x] (I, J) = if x < 0 ∨ 1 < x ∨ L = 0 then some (some (mI (-1)), (I, J)) else some (some (mI (q_X6_telling (allI I L) 69 L (if x = 1 then 1 else 0))), (allI I L, J)) := by
  rw [E_X9_tells]
  by_cases a : x < 0
  · rw [if_pos a, if_pos (Or.inl a)]
  · rw [if_neg a]
    by_cases b : 1 < x
    · rw [if_pos b, if_pos (Or.inr (Or.inl b))]
    · rw [if_neg b]
      simp only [fR_ok 5 h.k, h.r5, fR_ok 2 h.k, h.r2, fR_ok 1 h.world.k, h.world.r1, Option.bind_some]
      rw [if_pos (show kd (I, J) 69 = 6 from h.trc.k), u_runAll h I hL hl]
      by_cases c : L = 0
      · rw [if_pos c, if_pos (Or.inr (Or.inr c))]
        rfl
      · rw [if_neg c, if_neg (fun q => q.elim a (fun q => q.elim b c))]
        simp only [Option.bind_some, asI_I]
        have hA : allI I L 69 1 = nI L := by rw [allI_out I L 69 (by decide) (Or.inl (by decide))]; exact hL
        rw [if_neg (show ¬ (1 : Int32) = 0 by decide)]
        simp only [fR_ok 5 h.k, h.r5, Option.bind_some]
        by_cases d : x = 1
        · simp only [if_pos d]
          rw [if_pos (show kd (_, _) 69 = 6 from h.trc.k), t_X6_telling h.trc _ hA hl]
          rfl
        · simp only [if_neg d]
          rw [if_pos (show kd (_, _) 69 = 6 from h.trc.k), t_X6_telling h.trc _ hA hl]
          rfl
theorem u_undo_no {J : MJ} (h : KL J) (I : MI) {p : Nat} (hp : I 67 1 = nI p) (hq : I 67 2 = nI 0) (h1 : p < 20) : M_X9_undo [mR (some 0)] (I, J) = some (some (mI 0), (rfz I 4, J)) := by
  rw [E_X9_undo]
  simp only [fR_ok 4 h.k, h.r4, fR_ok 2 h.k, h.r2, Option.bind_some]
  rw [if_pos (show kd (I, J) 67 = 0 from h.his.1), t_bringBack0 (q := 0) h.his I hp hq h1]
  simp only [Option.bind_some, asI_I]
  rw [if_pos trivial, if_pos (show kd (I, J) 0 = 9 from h.k), show M_X9_refuseFlatly [mR (some 0), mI 4] _ = _ from u_refuseFlatly h I (k := 4) (by decide)]
  simp [asI]
theorem u_undo {J : MJ} (h : KL J) (I : MI) {p q a : Nat} (hp : I 67 1 = nI p) (hq : I 67 2 = nI (q + 1)) (h1 : p < 20) (h2 : q < 20) (hK : KwL J a) (hr : jR J 68 (bkp p) = some (a + 6)) (ha : 188 ≤ a) : M_X9_undo [mR (some 0)] (I, J) = some (some (mI 1), (up2 (up2 (h_X8_copyFrom I a (a + 7) (a + 19) (a + 21) 1 17 29 31) 67 1 (nI (bkp p))) 67 2 (nI q), J)) := by
  rw [E_X9_undo]
  simp only [fR_ok 4 h.k, h.r4, fR_ok 2 h.k, h.r2, Option.bind_some]
  rw [if_pos (show kd (I, J) 67 = 0 from h.his.1), t_bringBack h.his h.world h.han h.wks h.nodes h.mem hK hr (by omega) (by omega) (by omega) (by omega) (by omega) (by omega) I hp hq h1 h2]
  simp [asI]
/-- one look by chance; the draws lie in J -/
def chI (I : MI) (n : Int32) : MI := pt (pt I 183 (gP_X8_routeTo 60 (vw 1 I 16) (vw 2 I 183) (vw 6 I 1) (vw 12 I 17) n)) 17 (gV_X1_walk 60 (gP_X8_routeTo 60 (vw 1 I 16) (vw 2 I 183) (vw 6 I 1) (vw 12 I 17) n) (vw 6 I 1) (vw 12 I 17) (gP_X8_routeTo 60 (vw 1 I 16) (vw 2 I 183) (vw 6 I 1) (vw 12 I 17) n 0 1))
def chN (I : MI) (J : MJ) (c : Int32) : Int32 := q_X8_mountedNode (vw 1 I 16) (vw 6 I 1) (vw 12 I 17) (drQ (drw (J.1 0 15)) c)
def chS (c : Int32) : Nat → MI × MJ → MI × MJ
  | 0, s => s
  | f + 1, s => chS c f (chI s.1 (chN s.1 s.2 c), drJ s.2)
theorem KL.dr {J : MJ} (h : KL J) : KL (drJ J) := h
theorem lr_chance {J0 : MJ} (x1 x2 c : Int32) {n : Nat} (hx : x1 = nI n) (hn : n ≤ 40) (hc : 0 < c → ¬ Int32.toInt64 c = 0) : ∀ (f k : Nat) (I : MI) (J : MJ), KL J → k + f = n → Ev T_X9_chance 57 [some (mR (some 0)), some (mI x1), some (mI x2), some (mI c), some (mI (nI k))] [] (I, J) = some (some (mI ((chS c f (I, J)).1 17 13 - x2)), chS c f (I, J)) := by
  intro f
  induction f with
  | zero =>
    intro k I J h hk
    have hk : k = n := by omega
    subst hk
    rw [E_X9_chance_57, hx, if_pos (Int32.le_refl _)]
    simp only [fR_ok 2 h.k, h.r2, fR_ok 1 h.world.k, h.world.r1, Option.bind_some, fI_ok 13 h.mem.k]
    rfl
  | succ f ih =>
    intro k I J h hk
    have h' : KL (drJ J) := h
    rw [E_X9_chance_57, hx, if_neg (nI_ge (show k < n by omega) (by omega))]
    simp only [fR_ok 2 h.k, h.r2, Option.bind_some]
    rw [if_pos (show kd (I, J) 0 = 9 from h.k), u_drawOf h I c hc]
    simp only [Option.bind_some, asI_I]
    rw [if_pos (show kd (I, drJ J) 16 = 8 from h'.world.k), t_X8_mountedNode h'.world h'.nodes h'.mem (by decide) (by decide) (by decide)]
    simp only [Option.bind_some, asI_I, fR_ok 9 h'.k, h'.r9]
    rw [if_pos (show kd (I, drJ J) 16 = 8 from h'.world.k), t_X8_routeTo h'.world h'.long h'.nodes h'.mem (by decide) (by decide) (by decide) (by decide) (by decide) (by decide)]
    simp only [Option.bind_some, asV_n, fR_ok 2 h'.k, h'.r2, fR_ok 1 h'.world.k, h'.world.r1, fR_ok 9 h'.k, h'.r9, fI_ok 1 h'.long.k]
    rw [if_pos (show kd (_, drJ J) 17 = 1 from h'.mem.k), t_X1_walk h'.long h'.nodes h'.mem (by decide) (by decide) (by decide), vw_pt, vw_out I _ (by decide), vw_out I _ (by decide), p2_0]
    simp only [Option.bind_some, asI_I, nI_1]
    rw [← hx]
    exact ih (k + 1) _ _ h' (by omega)
theorem u_chance_no {J : MJ} (h : KL J) (I : MI) (x : Int32) (hn : I 1 6 ≤ 0 ∨ x < 1 ∨ ¬ x ≤ 40) : M_X9_chance [mR (some 0), mI x] (I, J) = some (some (mI (-1)), (rfz I 2, J)) := by
  have r := show M_X9_refuse [mR (some 0), mI 2] (I, J) = _ from u_refuse h I (k := 2) (by decide)
  have k9 : kd (I, J) 0 = 9 := h.k
  rw [E_X9_chance, if_pos k9, u_hasTrees h I]
  simp only [Option.bind_some, asI_I, if_pos k9, r]
  by_cases a : I 1 6 ≤ 0
  · rw [if_pos a, if_pos rfl]
  · rw [if_neg a, if_neg (show ¬ (1 : Int32) = 0 by decide)]
    by_cases b : x < 1
    · rw [if_pos b]
    · rw [if_neg b, if_neg (hn.elim (fun q => absurd q a) (fun q => q.elim (fun q => absurd q b) id))]
theorem u_chance {J : MJ} (h : KL J) (I : MI) {n : Nat} (a : ¬ I 1 6 ≤ 0) (hn : 1 ≤ n) (hm : n ≤ 40) {X : MI} {J1 : MJ} (hk : M_X0_keep [mR (some 67), mR (some 16)] (I, J) = some (none, (X, J1))) (h1 : KL J1) (hc : 0 < q_X8_mountedNodes (vw 1 X 16) (vw 6 X 1) (vw 12 X 17) → ¬ Int32.toInt64 (q_X8_mountedNodes (vw 1 X 16) (vw 6 X 1) (vw 12 X 17)) = 0) : M_X9_chance [mR (some 0), mI (nI n)] (I, J) = some (some (mI ((chS (q_X8_mountedNodes (vw 1 X 16) (vw 6 X 1) (vw 12 X 17)) n (X, J1)).1 17 13 - X 17 13)), chS (q_X8_mountedNodes (vw 1 X 16) (vw 6 X 1) (vw 12 X 17)) n (X, J1)) := by
  rw [E_X9_chance, if_pos (show kd (I, J) 0 = 9 from h.k), u_hasTrees h I, if_neg a]
  simp only [Option.bind_some, asI_I]
  rw [if_neg (show ¬ (1 : Int32) = 0 by decide), if_neg (by rw [i32_lt, nI_toInt (by omega)]; exact fun q => absurd q (by show ¬ ((n : Int) < 1); omega)), if_pos (by rw [i32_le, nI_toInt (by omega)]; show (n : Int) ≤ 40; omega)]
  simp only [fR_ok 4 h.k, h.r4, fR_ok 2 h.k, h.r2, Option.bind_some]
  rw [if_pos (show kd (_, _) 67 = 0 from h.his.1), hk]
  simp only [Option.bind_some, asV_n, fR_ok 2 h1.k, h1.r2, fR_ok 1 h1.world.k, h1.world.r1, fI_ok 13 h1.mem.k]
  rw [if_pos (show kd (_, _) 16 = 8 from h1.world.k), t_X8_mountedNodes h1.world h1.nodes h1.mem (by decide) (by decide) (by decide)]
  simp only [Option.bind_some, asI_I]
  exact lr_chance (J0 := J1) (nI n) _ _ rfl hm hc n 0 X J1 h1 (by omega)
/-- the heap when trees have been read -/
def trI (I : MI) : MI := clr (pt (pt I 9 (gE_X3_readTrees (vw 1 I 9) (vw 2 I 7) (vw 6 I 10))) 10 (gU_X3_readTrees (vw 1 I 9) (vw 2 I 7) (vw 6 I 10)))
def trQ (I : MI) : Int32 := q_X3_readTrees (vw 1 I 9) (vw 2 I 7) (vw 6 I 10)
def trW (X : MI) : MI := up2 (up2 (up2 (up2 (h_X8_startWith X 10 1 17 29 31) 67 2 0) 69 1 0) 69 2 (-1)) 0 14 0
theorem u_trees {J : MJ} (h : KL J) (I : MI) : M_X9_trees [mR (some 0)] (I, J) = if trQ I = 0 then some (some (mI (-1)), (rfz (trI I) 1, J)) else some (some (mI (trW (trI I) 1 6)), (trW (trI I), J)) := by
  rw [E_X9_trees]
  simp only [fR_ok 1 h.k, h.r1, fR_ok 0 h.k, h.r0, Option.bind_some]
  rw [if_pos (show kd (I, J) 9 = 3 from h.reader.k), t_X3_readTrees h.reader h.tape h.draft (by decide) (by decide) (by decide) I]
  simp only [Option.bind_some, asI_I, fR_ok 0 h.k, h.r0]
  rw [if_pos (show kd (_, _) 7 = 5 from h.tape.k), show M_X5_clear [mR (some 7)] (pt (pt I 9 (gE_X3_readTrees (vw 1 I 9) (vw 2 I 7) (vw 6 I 10))) 10 (gU_X3_readTrees (vw 1 I 9) (vw 2 I 7) (vw 6 I 10)), J) = some (none, (trI I, J)) from t_X5_clear h.tape _, show q_X3_readTrees (vw 1 I 9) (vw 2 I 7) (vw 6 I 10) = trQ I from rfl]
  simp only [Option.bind_some, asV_n]
  generalize trI I = X
  by_cases a : trQ I = 0
  · rw [if_pos a, if_pos a, if_pos (show kd (_, _) 0 = 9 from h.k), show M_X9_refuse [mR (some 0), mI 1] _ = _ from u_refuse h _ (k := 1) (by decide)]
    rfl
  · rw [if_neg a, if_neg a]
    simp only [fR_ok 2 h.k, h.r2, fR_ok 1 h.k, h.r1, fR_ok 0 h.reader.k, h.reader.r0, Option.bind_some]
    rw [if_pos (show kd (_, _) 16 = 8 from h.world.k), t_X8_startWith h.world h.han h.wks h.draft h.nodes h.mem (by decide) (by decide)]
    simp only [Option.bind_some, asV_n, fR_ok 4 h.k, h.r4]
    rw [if_pos (show kd (_, _) 67 = 0 from h.his.1), E_X0_forget, wI_ok 2 _ h.his.1]
    simp only [Option.bind_some, asV_n, fR_ok 5 h.k, h.r5]
    rw [if_pos (show kd (_, _) 69 = 6 from h.trc.k), t_X6_forget h.trc]
    simp only [Option.bind_some, asV_n, wZ_ok 14 0 h.k (Or.inl rfl), fR_ok 2 h.k, h.r2, fR_ok 0 h.world.k, h.world.r0, fI_ok 6 h.nodes.k]
    rfl
end

/-! Constructors: rows made one behind another, each laid into a field of one object. -/
theorem nw_ok (s : MH) (d n : Nat) (m : Int32) (h1 : ¬ m < 0) (h2 : m.toNatClampNeg = n) (h3 : n ≤ 100000) : nw s d m = some (al s d n) := by
  subst h2
  exact if_pos ⟨h1, h3⟩
theorem wR_ok {s : MH} {c a k : Nat} {v : Option Nat} (h : kd s a = c) : wR s c a k v = some (sR s a k v) := if_pos h
def aws (a : Nat) : List (Nat × Nat × Nat) → MH → MH
  | [], s => s
  | q :: l, s => aws a l (sR (al s q.1 q.2.1) a q.2.2 (some (sz s)))
def rk : List (Nat × Nat × Nat) → Nat → Nat → Option Nat
  | [], _, _ => none
  | q :: l, c, k => match rk l (c + 1) k with
    | some x => some x
    | none => if k = q.2.2 then some c else none
def slo : List (Nat × Nat × Nat) → Nat
  | [] => 0
  | q :: l => q.2.1 + slo l
/-- x is as it was -/
def Sm (s s' : MH) (x : Nat) : Prop := s'.1 x = s.1 x ∧ s'.2.1 x = s.2.1 x ∧ s'.2.2.1 x = s.2.2.1 x ∧ s'.2.2.2.1 x = s.2.2.2.1 x
theorem Sm.refl (s : MH) (x : Nat) : Sm s s x := ⟨rfl, rfl, rfl, rfl⟩
theorem Sm.trans {s s' s'' : MH} {x : Nat} (h : Sm s s' x) (g : Sm s' s'' x) : Sm s s'' x := ⟨g.1.trans h.1, g.2.1.trans h.2.1, g.2.2.1.trans h.2.2.1, g.2.2.2.trans h.2.2.2⟩
theorem al_sm (s : MH) (d n x : Nat) (h : x ≠ sz s) : Sm s (al s d n) x := by
  refine ⟨?_, ?_, ?_, ?_⟩
  · funext y; exact if_neg h
  · funext y; exact if_neg h
  · funext y; exact if_neg h
  · exact if_neg h
theorem sR_sm (s : MH) (a k : Nat) (v : Option Nat) (x : Nat) (h : x ≠ a) : Sm s (sR s a k v) x := by
  refine ⟨rfl, rfl, ?_, rfl⟩
  funext y
  exact if_neg (fun q => h q.1)
theorem aws_sz (a : Nat) : ∀ (l : List (Nat × Nat × Nat)) (s : MH), sz (aws a l s) = sz s + l.length ∧ sl (aws a l s) = sl s + slo l
  | [], s => ⟨rfl, rfl⟩
  | q :: l, s => by
    have h := aws_sz a l (sR (al s q.1 q.2.1) a q.2.2 (some (sz s)))
    constructor
    · show sz (aws a l (sR (al s q.1 q.2.1) a q.2.2 (some (sz s)))) = _
      rw [h.1]
      show sz s + 1 + l.length = sz s + (l.length + 1)
      omega
    · show sl (aws a l (sR (al s q.1 q.2.1) a q.2.2 (some (sz s)))) = _
      rw [h.2]
      show sl s + q.2.1 + slo l = sl s + (q.2.1 + slo l)
      omega
theorem aws_sm (a : Nat) : ∀ (l : List (Nat × Nat × Nat)) (s : MH) (x : Nat), x < sz s → x ≠ a → Sm s (aws a l s) x
  | [], s, x, _, _ => Sm.refl s x
  | q :: l, s, x, h, g => by
    have h1 := aws_sm a l (sR (al s q.1 q.2.1) a q.2.2 (some (sz s))) x (Nat.lt_succ_of_lt h) g
    exact ((al_sm s q.1 q.2.1 x (Nat.ne_of_lt h)).trans (sR_sm _ _ _ _ x g)).trans h1
theorem aws_a (a : Nat) : ∀ (l : List (Nat × Nat × Nat)) (s : MH), a < sz s → (aws a l s).1 a = s.1 a ∧ (aws a l s).2.1 a = s.2.1 a ∧ (aws a l s).2.2.2.1 a = s.2.2.2.1 a ∧ ∀ k, (aws a l s).2.2.1 a k = match rk l (sz s) k with
    | some x => some x
    | none => s.2.2.1 a k
  | [], s, _ => ⟨rfl, rfl, rfl, fun _ => rfl⟩
  | q :: l, s, h => by
    have h1 := aws_a a l (sR (al s q.1 q.2.1) a q.2.2 (some (sz s))) (Nat.lt_succ_of_lt h)
    have h2 := al_sm s q.1 q.2.1 a (Nat.ne_of_lt h)
    refine ⟨h1.1.trans h2.1, h1.2.1.trans h2.2.1, h1.2.2.1.trans h2.2.2.2, fun k => ?_⟩
    rw [show (aws a (q :: l) s) = aws a l (sR (al s q.1 q.2.1) a q.2.2 (some (sz s))) from rfl, h1.2.2.2 k]
    show (match rk l (sz s + 1) k with | some x => some x | none => (sR (al s q.1 q.2.1) a q.2.2 (some (sz s))).2.2.1 a k) = match (match rk l (sz s + 1) k with | some x => some x | none => if k = q.2.2 then some (sz s) else none) with | some x => some x | none => s.2.2.1 a k
    cases rk l (sz s + 1) k with
    | some x => rfl
    | none =>
      show (if a = a ∧ k = q.2.2 then some (sz s) else (al s q.1 q.2.1).2.2.1 a k) = _
      by_cases e : k = q.2.2
      · rw [if_pos ⟨rfl, e⟩, if_pos e]
      · rw [if_neg (fun z => e z.2), if_neg e, h2.2.2.1]
theorem aws_new (a : Nat) : ∀ (l : List (Nat × Nat × Nat)) (s : MH) (i : Nat) (q : Nat × Nat × Nat), a < sz s → l[i]? = some q → (aws a l s).1 (sz s + i) = (fun _ => 0) ∧ (aws a l s).2.2.2.1 (sz s + i) = (q.1, q.2.1) ∧ (aws a l s).2.2.1 (sz s + i) = (fun _ => none)
  | [], s, i, q, _, h => by cases h
  | p :: l, s, 0, q, ha, h => by
    cases h
    have h1 := aws_sm a l (sR (al s p.1 p.2.1) a p.2.2 (some (sz s))) (sz s) (Nat.lt_succ_self _) (Nat.ne_of_gt ha)
    have e : ∀ {α β : Type} (u v : α), (if sz s = sz s then u else v) = u := fun u v => if_pos rfl
    refine ⟨h1.1.trans ?_, h1.2.2.2.trans (if_pos rfl), h1.2.2.1.trans ?_⟩
    · funext y; exact if_pos rfl
    · funext y
      show (if sz s = a ∧ y = p.2.2 then _ else (if sz s = sz s then none else _)) = _
      rw [if_neg (fun z => absurd z.1 (Nat.ne_of_gt ha)), if_pos rfl]
  | p :: l, s, i + 1, q, ha, h => by
    have h1 := aws_new a l (sR (al s p.1 p.2.1) a p.2.2 (some (sz s))) i q (Nat.lt_succ_of_lt ha) h
    have e : sz s + (i + 1) = sz (sR (al s p.1 p.2.1) a p.2.2 (some (sz s))) + i := by
      show sz s + (i + 1) = sz s + 1 + i
      omega
    rw [e]
    exact h1

/-! The keeper made. Written by gen/ctor9.py. -/
def Zx (s s' : MH) : Prop := (∀ x, 0 < x → x < sz s → Sm s s' x) ∧ sz s ≤ sz s'
theorem Zx.trans {a b c : MH} (h : Zx a b) (g : Zx b c) : Zx a c := ⟨fun x h0 h1 => (h.1 x h0 h1).trans (g.1 x h0 (Nat.lt_of_lt_of_le h1 h.2)), Nat.le_trans h.2 g.2⟩
theorem Zx.refl (s : MH) : Zx s s := ⟨fun x _ _ => Sm.refl s x, Nat.le_refl _⟩
theorem Gw.zx {s s' : MH} {n m : Nat} (h : Gw s s' n m) : Zx s s' := ⟨fun x _ h1 => h.2.2 x h1, by rw [h.1]; omega⟩
theorem sR0_zx (s : MH) (k : Nat) (v : Option Nat) : Zx s (sR s 0 k v) := ⟨fun x h0 _ => sR_sm s 0 k v x (by omega), Nat.le_refl _⟩
theorem Zx.bw {s s' : MH} (h : Zx s s') {a b : Nat} (h0 : 0 < a) (hb : b ≤ sz s) : Bw s.2 s'.2 a b := fun x h1 h2 => ⟨(h.1 x (by omega) (by omega)).2.2.1, (h.1 x (by omega) (by omega)).2.2.2⟩
/-- what is kept of cell 0: its ints, its shape -/
def C0 (s s' : MH) : Prop := s'.1 0 = s.1 0 ∧ s'.2.2.2.1 0 = s.2.2.2.1 0 ∧ s'.2.1 0 = s.2.1 0
theorem C0.trans {a b c : MH} (h : C0 a b) (g : C0 b c) : C0 a c := ⟨g.1.trans h.1, g.2.1.trans h.2.1, g.2.2.trans h.2.2⟩
theorem Sm.c0 {s s' : MH} (h : Sm s s' 0) : C0 s s' := ⟨h.1, h.2.2.2, h.2.1⟩
theorem sR_c0 (s : MH) (a k : Nat) (v : Option Nat) : C0 s (sR s a k v) := ⟨rfl, rfl, rfl⟩
theorem sR_r0 (s : MH) (k : Nat) (v : Option Nat) (j : Nat) : (sR s 0 k v).2.2.1 0 j = if j = k then v else s.2.2.1 0 j := by
  show (if 0 = 0 ∧ j = k then v else s.2.2.1 0 j) = _
  by_cases e : j = k
  · rw [if_pos ⟨rfl, e⟩, if_pos e]
  · rw [if_neg (fun q => e q.2), if_neg e]
/-- told routes so far -/
def TolK (J : MJ) (k : Nat) : Prop := ∀ i, i < k → jR J 162 i = some (rr 158 i) ∧ RouL J (rr 158 i) 12
theorem lp_X9_init : ∀ (f k : Nat) (s : MH), k + f = 12 → 2 ≤ k → kd s 0 = 9 → s.2.2.1 0 8 = some 162 → s.2.2.2.1 162 = (13, 12) → sz s = 159 + 2 * k → TolK s.2 k → (∀ x, 163 ≤ x → x < 159 + 2 * k → s.1 x = fun _ => 0) →
    ∃ s', Ev T_X9_init 161 [some (mR (some 0)), none, some (mI (nI k))] [] s = Ev T_X9_init 161 [some (mR (some 0)), none, some (mI (nI 12))] [] s' ∧ sz s' = 183 ∧ sl s' = sl s + 14 * f ∧ (∀ x, x < 163 → x ≠ 162 → Sm s s' x) ∧ s'.1 162 = s.1 162 ∧ s'.2.2.2.1 162 = (13, 12) ∧ TolK s'.2 12 ∧ ∀ x, 163 ≤ x → x < 183 → s'.1 x = fun _ => 0 := by
  intro f
  induction f with
  | zero =>
    intro k s hk h2 hko hro hsz hc hw hi
    have hk : k = 12 := by omega
    subst hk
    exact ⟨s, rfl, hc, rfl, fun x _ _ => Sm.refl _ x, rfl, hsz, hw, hi⟩
  | succ f ih =>
    intro k s hk h2 hko hro hsz hc hw hi
    obtain ⟨s1, e1, g1, p1, z1⟩ := n_X4_12 s
    have er : rr 158 k = 159 + 2 * k := by unfold rr; rw [if_neg (by omega)]; omega
    rw [hc] at p1 z1
    have kz1 : s1.2.2.2.1 162 = (13, 12) := (g1.2.2 162 (by omega)).2.2.2.trans hsz
    have rz1 : s1.2.2.1 162 = s.2.2.1 162 := (g1.2.2 162 (by omega)).2.2.1
    have hx : ix (nI k) = k := ix_nI (by omega)
    generalize hs2 : sR s1 162 k (some (159 + 2 * k)) = s2
    have m2 : ∀ x, x ≠ 162 → Sm s1 s2 x := fun x q => by rw [← hs2]; exact sR_sm s1 _ _ _ x q
    have c2 : sz s2 = 159 + 2 * (k + 1) := by rw [← hs2]; show sz s1 = _; rw [g1.1, hc]; omega
    have i2 : s2.1 = s1.1 := by rw [← hs2]
    have wk : TolK s2.2 (k + 1) := by
      intro i hik
      by_cases e : i = k
      · subst e
        rw [er]
        exact ⟨by rw [← hs2]; exact if_pos ⟨rfl, rfl⟩, p1.bw (b := 159 + 2 * i + 2) (fun x h1 h2 => ⟨(m2 x (by omega)).2.2.1, (m2 x (by omega)).2.2.2⟩) (by omega)⟩
      · have hi' : i < k := by omega
        have old := hw i hi'
        have hrr : rr 158 i + 2 ≤ 162 ∨ (163 ≤ rr 158 i ∧ rr 158 i + 2 ≤ 159 + 2 * k) := by unfold rr; split <;> omega
        refine ⟨?_, old.2.bw (b := rr 158 i + 2) (fun x h1 h2 => ?_) (by omega)⟩
        · rw [← hs2]
          show (if 162 = 162 ∧ i = k then _ else s1.2.2.1 162 i) = _
          rw [if_neg (fun q => e q.2), rz1]
          exact old.1
        · have q := (g1.2.2 x (by omega)).trans (m2 x (by omega))
          exact ⟨q.2.2.1, q.2.2.2⟩
    have i0 : ∀ x, 163 ≤ x → x < 159 + 2 * (k + 1) → s2.1 x = fun _ => 0 := by
      intro x h1 h2
      rw [i2]
      by_cases e : x < 159 + 2 * k
      · rw [(g1.2.2 x (by omega)).1]
        exact hi x h1 e
      · exact z1 x (by omega) (by omega)
    have so : Sm s s2 0 := (g1.2.2 0 (by omega)).trans (m2 0 (by omega))
    have kz2 : s2.2.2.2.1 162 = (13, 12) := by rw [← hs2]; exact kz1
    obtain ⟨s', e', q1, q2, q3, q4, q6, q7, q8⟩ := ih (k + 1) s2 (by omega) (by omega) ((congrArg Prod.fst so.2.2.2).trans hko) ((congrFun so.2.2.1 8).trans hro) kz2 c2 wk i0
    refine ⟨s', ?_, q1, ?_, fun x h1 h2 => ((g1.2.2 x (by omega)).trans (m2 x h2)).trans (q3 x h1 h2), ?_, q6, q7, q8⟩
    · rw [← e']
      obtain ⟨I, J⟩ := s
      have hc' : sz (I, J) = 159 + 2 * k := hc
      rw [hc'] at e1
      rw [E_X9_init_161, fR_ok 8 hko, Option.bind_some, show jR J 0 8 = some 162 from hro, Option.bind_some, aln_ok hsz (by decide), Option.bind_some, if_neg (show ¬ nI 12 ≤ nI k from nI_ge (show k < 12 by omega) (by decide)), Option.bind_some, hc', if_pos (by have := al_kd (I, J) 4 2; rwa [hc'] at this), e1]
      simp only [Option.bind_some, asV_n]
      have es : stR s1 162 (nI k) (some (159 + 2 * k)) = some s2 := by
        unfold stR
        rw [if_pos, show (nI k).toNatClampNeg = k from hx, hs2]
        have kk : kd s1 162 = 13 := congrArg Prod.fst kz1
        refine ⟨by rw [kk]; decide, ?_, ?_⟩
        · rw [show ln s1 162 = 12 from congrArg Prod.snd kz1]
          exact inb_nI (by omega) (by decide)
        · unfold elt
          rw [kk]
          have k4 : kd s1 (159 + 2 * k) = 4 := p1.k
          show (13 == 13 && kd s1 (159 + 2 * k) == 4 || 13 == 14 && kd s1 (159 + 2 * k) == 7 || 13 == 15 && kd s1 (159 + 2 * k) == 8) = true
          rw [k4]
          rfl
      rw [es, Option.bind_some, nI_1]
    · rw [q2, show sl s2 = sl s1 by rw [← hs2], g1.2.1]
      omega
    · rw [q4, i2, (g1.2.2 162 (by omega)).1]

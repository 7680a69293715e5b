/-! A path on the tape, on both sides. -/
theorem eos_nI {Q : RouV} {T : Nat} (t : Tap Q T) {to : Nat} (hto : to ≤ T) : ∀ (f a s : Nat), a ≤ s → s ≤ to → to - a ≤ f → (∀ k, a ≤ k → k < s → ¬ Q 1 k = 47) → (s = to ∨ Q 1 s = 47) → lp_X4_endOfStep Q (nI to) f (nI a) = nI s := by
  have T4 := t.1
  intro f
  induction f with
  | zero =>
    intro a s h1 h2 h3 _ _
    show nI a = nI s
    congr 1
    omega
  | succ f ih =>
    intro a s h1 h2 h3 h4 h5
    show (if nI to ≤ nI a then nI a else if q_X5_at Q (nI a) = 47 then nI a else lp_X4_endOfStep Q (nI to) f (nI a + 1)) = nI s
    by_cases q : to ≤ a
    · rw [if_pos (nI_le q (by omega))]
      congr 1
      omega
    · rw [if_neg (nI_ge (by omega) (by omega)), t.in (by omega)]
      by_cases z : a = s
      · subst z
        rw [if_pos (h5.resolve_left (by omega))]
      · rw [if_neg (h4 a (Nat.le_refl _) (by omega)), nI_1]
        exact ih (a + 1) s (by omega) h2 (by omega) (fun k k1 k2 => h4 k (by omega) k2) h5
theorem eos {Q : RouV} {T : Nat} (t : Tap Q T) {to a s : Nat} (hto : to ≤ T) (h1 : a ≤ s) (h2 : s ≤ to) (h4 : ∀ k, a ≤ k → k < s → ¬ Q 1 k = 47) (h5 : s = to ∨ Q 1 s = 47) : q_X4_endOfStep Q (nI a) (nI to) = nI s := by
  have T4 := t.1
  unfold q_X4_endOfStep
  rw [nI_toInt (by omega), nI_toInt (by omega)]
  exact eos_nI t hto _ a s h1 h2 (by omega) h4 h5
/-- the steps of a route beside a row of the reference -/
def Pth (P : RouV) (S : RowV) (l : Nat) : Prop := P 0 1 = nI l ∧ ∀ k, k < l → NmS (P 1 k) (S k)
theorem push_q {P : RouV} {l : Nat} (hp : P 0 1 = nI l) (hl : l ≤ 12) (s : Int32) : q_X4_push 12 P s = if l < 12 then 1 else 0 := by
  unfold q_X4_push
  rw [hp, if_neg (nI_pos (by omega))]
  by_cases q : l < 12
  · rw [if_pos (nI_lt q (by decide)), if_pos q]
  · rw [if_neg (nI_nlt (by omega) (by omega)), if_neg q]
theorem push_g {P : RouV} {l L : Nat} (hp : P 0 1 = nI l) (hl : l < L) (hL : L < 1000) (s : Int32) : gP_X4_push L P s = uv (uv P 1 l s) 0 1 (nI (l + 1)) := by
  unfold gP_X4_push
  rw [hp, if_neg (nI_pos (by omega)), if_pos (nI_lt hl (by omega)), ix_nI (by omega), nI_1]
theorem Pth.push {P : RouV} {S : RowV} {l L : Nat} (h : Pth P S l) (hl : l < L) (hL : L < 1000) {s y : Int32} (hs : NmS s y) : Pth (gP_X4_push L P s) (sD S l y) (l + 1) := by
  rw [push_g h.1 hl hL]
  refine ⟨uv_s _ _ _ _, fun k hk => ?_⟩
  rw [uv_k _ _ _ _ _ (by decide), uv_at]
  by_cases q : k = l
  · subst q
    rw [if_pos rfl, sD_s]
    exact hs
  · rw [if_neg q, sD_n _ _ q]
    exact h.2 k (by omega)
theorem RefL.st192 {J : MJ} (h : RefL J) (I : MI) {k : Nat} (hk : k < 64) (v : Int32) : st (I, J) 11 192 (nI k) v = some (up2 I 192 k v, J) := by
  rw [st_ok _ _ h.s14 (inb_nI hk (by decide)), show (nI k).toNatClampNeg = k from ix_nI (by omega)]
/-- how the reference ends where the class reads c -/
def PEn (Q : RouV) (T to : Nat) (c y : Int32) (p' : Nat) (P' : RouV) (l' : Nat) (S' : RowV) : Prop := (c = 1 ∧ y = 1 ∧ p' = to ∧ l' ≤ 12 ∧ Pth P' S' l') ∨ (c = 0 ∧ (y = 0 ∨ (y = 1 ∧ p' < T ∧ ¬ Q 1 p' = 32 ∧ l' ≤ 12)))
theorem path_loop {I : MI} {Q : RouV} {T : Nat} (t : RTap I Q T) {J : MJ} (h : RefL J) {to : Nat} (hto : to ≤ T) (hend : to = T ∨ Q 1 to = 32) : ∀ (f l p : Nat) (S : RowV) (P : RouV), l + f = 13 → p ≤ to → (0 < l ∨ p < to) → l ≤ 12 → (∀ k, p ≤ k → k < to → ¬ Q 1 k = 32) → Pth P S l → ∃ y p' l' S', Ev T_X10_isPathHere 73 [some (mR (some 188)), none] [] (pF I (nI p) (nI l) S, J) = some (some (mI y), (pF I (nI p') (nI l') S', J)) ∧ p' ≤ T ∧ PEn Q T to (lp_X4_readFrom 12 Q (nI to) f (nI p) P).1 y p' (lp_X4_readFrom 12 Q (nI to) f (nI p) P).2 l' S' := by
  have T4 := t.1.1
  intro f
  induction f with
  | zero => intro l p S P hl _ _ h12; omega
  | succ f ih =>
    intro l p S P hl hp hlp h12 hnb hP
    have m3 : ∀ a m S, pF I a m S 188 3 = nI T := fun a m S => by rw [pF_k _ _ _ _ (by decide) (by decide)]; exact t.2.1
    have unf : lp_X4_readFrom 12 Q (nI to) (f + 1) (nI p) P = if nI to ≤ nI p then (if (P 0 1) ≤ 0 then 0 else 1, P) else if (q_X5_at Q (nI p)) = 47 then (if (q_X9_stepBetween Q (nI p + 1) (q_X4_endOfStep Q (nI p + 1) (nI to))) = 0 then (0, P) else if (q_X4_push 12 P (q_X9_stepBetween Q (nI p + 1) (q_X4_endOfStep Q (nI p + 1) (nI to)))) = 0 then (0, gP_X4_push 12 P (q_X9_stepBetween Q (nI p + 1) (q_X4_endOfStep Q (nI p + 1) (nI to)))) else lp_X4_readFrom 12 Q (nI to) f (q_X4_endOfStep Q (nI p + 1) (nI to)) (gP_X4_push 12 P (q_X9_stepBetween Q (nI p + 1) (q_X4_endOfStep Q (nI p + 1) (nI to))))) else (0, P) := rfl
    rw [E_X10_isPathHere_73]
    simp only [h.fi, pF_2, m3, Option.bind_some, h.f0]
    rcases Nat.eq_or_lt_of_le hp with q | q
    · subst q
      have l0 : 0 < l := by omega
      rw [unf, if_pos (Int32.le_refl _), hP.1, if_neg (nI_nle l0 (by omega))]
      rcases hend with z | z
      · subst z
        rw [if_pos (Int32.le_refl _)]
        refine ⟨1, p, l, S, ?_, hto, Or.inl ⟨rfl, rfl, rfl, h12, hP⟩⟩
        simp
      · rcases Nat.eq_or_lt_of_le hto with w | w
        · rw [w, if_pos (Int32.le_refl _)]
          refine ⟨1, T, l, S, ?_, Nat.le_refl _, Or.inl ⟨rfl, rfl, rfl, h12, hP⟩⟩
          simp
        · rw [if_neg (nI_ge w (by omega)), t.ld h _ _ S w rfl, Option.bind_some, z, if_neg (show ¬ (32 : Int32) = 47 by decide)]
          refine ⟨1, p, l, S, ?_, hto, Or.inl ⟨rfl, rfl, rfl, h12, hP⟩⟩
          simp
    · have pT : p < T := by omega
      rw [if_neg (nI_ge pT (by omega)), t.ld h _ _ S pT rfl, Option.bind_some, unf, if_neg (nI_ge q (by omega)), t.1.in pT]
      by_cases sl : Q 1 p = 47
      · rw [if_pos sl, if_pos sl]
        simp only [h.wi, Option.bind_some, pF_s2, h.kt, if_true, nI_1]
        obtain ⟨s, s1, s2, s3, s4⟩ := ex_first (fun k => Q 1 k = 47) (p + 1) to (by omega)
        rw [eos t.1 hto s1 s2 s3 s4]
        obtain ⟨r, r1, r2, r3, r4⟩ := ex_first (fun k => ¬ Ld (Q 1 k)) (p + 1) T (by omega)
        have r3' : ∀ k, p + 1 ≤ k → k < r → Ld (Q 1 k) := fun k k1 k2 => Classical.byContradiction (r3 k k1 k2)
        obtain ⟨y, w1, w2⟩ := w_step5 t h (nI l) S r1 r2 r3' r4
        have n47 : ¬ Ld 47 := by
          rintro (⟨a, a1, a2, a3⟩ | z)
          · have : (47 : Nat) = 96 + a := (nI_eq (by decide) (by omega)).mp a3
            omega
          · exact absurd z (by decide)
        have n32 : ¬ Ld 32 := by
          rintro (⟨a, a1, a2, a3⟩ | z)
          · have : (32 : Nat) = 96 + a := (nI_eq (by decide) (by omega)).mp a3
            omega
          · exact absurd z (by decide)
        have rs : r ≤ s := by
          rcases Nat.lt_or_ge s r with z | z
          · have ls := r3' s s1 z
            rcases s4 with y | y
            · subst y
              rcases hend with e | e
              · omega
              · rw [e] at ls; exact absurd ls n32
            · have y : Q 1 s = 47 := y
              rw [y] at ls; exact absurd ls n47
          · exact z
        rw [w1]
        simp only [Option.bind_some, asI_I, h.fi, pF_15]
        rcases Nat.eq_or_lt_of_le rs with e | e
        · subst e
          rcases w2 with ⟨z1, z2⟩ | z
          · rw [z1, z2, if_pos rfl, if_pos rfl]
            refine ⟨0, r, l, S, ?_, r2, Or.inr ⟨rfl, Or.inl rfl⟩⟩
            simp
          · have ny : ¬ y = 0 := by
              rcases z with z | ⟨_, z⟩ | ⟨_, z⟩
              · exact (i32_gt_ne z.gt.2).2.2.1
              · rw [z]; decide
              · rw [z]; decide
            have ns : ¬ q_X9_stepBetween Q (nI (p + 1)) (nI r) = 0 := by
              rcases z with z | ⟨z, _⟩ | ⟨z, _⟩
              · exact (i32_gt_ne z.gt.1).2.2.1
              · rw [z]; decide
              · rw [z]; decide
            rw [if_neg ny, if_neg ns, push_q hP.1 h12]
            by_cases l12 : l < 12
            · rw [if_neg (fun z => by have : l = 12 := (nI_eq (b := 12) (by omega) (by decide)).mp z; omega), if_pos l12, if_neg i10]
              simp only [h.f14, Option.bind_some, h.st192 _ (show l < 64 by omega), pF_sS, h.fi, pF_15, h.wi, pF_s15, nI_1]
              exact ih (l + 1) r (sD S l y) _ (by omega) s2 (by omega) (by omega) (fun k k1 k2 => hnb k (by omega) k2) (hP.push l12 (by decide) z)
            · have : l = 12 := by omega
              subst this
              rw [if_pos (show nI 12 = 12 from rfl), if_neg l12, if_pos rfl]
              refine ⟨0, r, 12, S, ?_, r2, Or.inr ⟨rfl, Or.inl rfl⟩⟩
              simp
        · have bad : ¬ Ld (Q 1 r) := r4.resolve_left (by omega)
          have cz : q_X9_stepBetween Q (nI (p + 1)) (nI s) = 0 := by
            have nb : q_X9_nameBetween Q (nI (p + 1)) (nI s) = 0 := by
              have := nb_none t.1 (p := p + 1) (n := s - (p + 1)) (by omega) (Or.inr (Or.inr ⟨r - (p + 1), by omega, by rw [show p + 1 + (r - (p + 1)) = r by omega]; exact fun z => bad (Or.inl z)⟩))
              rw [show p + 1 + (s - (p + 1)) = s by omega] at this
              exact this
            unfold q_X9_stepBetween
            rw [nI_sub (by omega)]
            by_cases d : q_X5_at Q (nI (p + 1)) = 46
            · rw [if_pos d]
              have lt1 : p + 1 < T := by omega
              rw [t.1.in lt1] at d
              have rne : p + 1 ≠ r := fun z => bad (by rw [← z]; exact Or.inr d)
              rw [if_neg (fun z => by have : s - (p + 1) = 1 := (nI_eq (b := 1) (by omega) (by decide)).mp z; omega)]
              by_cases n2 : nI (s - (p + 1)) = 2
              · have s2' : s - (p + 1) = 2 := (nI_eq (b := 2) (by omega) (by decide)).mp n2
                have r' : r = p + 2 := by omega
                rw [if_pos n2, nI_1, t.1.in (show p + 1 + 1 < T by omega), if_neg (fun z => bad (by rw [r']; exact Or.inr z))]
                exact nb
              · rw [if_neg n2]; exact nb
            · rw [if_neg d]; exact nb
          rw [cz, if_pos rfl]
          by_cases y0 : y = 0
          · rw [if_pos y0]
            refine ⟨0, r, l, S, ?_, r2, Or.inr ⟨rfl, Or.inl rfl⟩⟩
            simp
          · rw [if_neg y0]
            by_cases l12 : l < 12
            · rw [if_neg (fun z => by have : l = 12 := (nI_eq (b := 12) (by omega) (by decide)).mp z; omega)]
              simp only [h.f14, Option.bind_some, h.st192 _ (show l < 64 by omega), pF_sS, h.fi, pF_15, h.wi, pF_s15, nI_1]
              have rT : r < T := by omega
              have r47 : ¬ Q 1 r = 47 := fun z => s3 r (by omega) e z
              rw [E_X10_isPathHere_73]
              simp only [h.fi, pF_2, m3, Option.bind_some, h.f0, t.ld h _ _ _ rT rfl]
              rw [if_neg (nI_ge rT (by omega)), if_neg r47]
              refine ⟨1, r, l + 1, sD S l y, ?_, r2, Or.inr ⟨rfl, Or.inr ⟨rfl, rT, hnb r (by omega) (by omega), by omega⟩⟩⟩
              simp
            · have : l = 12 := by omega
              subst this
              rw [if_pos (show nI 12 = 12 from rfl)]
              refine ⟨0, r, 12, S, ?_, r2, Or.inr ⟨rfl, Or.inl rfl⟩⟩
              simp
      · rw [if_neg sl, if_neg sl]
        refine ⟨1, p, l, S, ?_, by omega, Or.inr ⟨rfl, Or.inr ⟨rfl, pT, hnb p (Nat.le_refl _) q, h12⟩⟩⟩
        simp
theorem w_isPathHere {I : MI} {Q : RouV} {T : Nat} (t : RTap I Q T) {J : MJ} (h : RefL J) {fr to : Nat} (hft : fr ≤ to) (hto : to ≤ T) (hend : to = T ∨ Q 1 to = 32) (hnb : ∀ k, fr ≤ k → k < to → ¬ Q 1 k = 32) (m : Int32) (S : RowV) (P : RouV) : ∃ y p' l' S', M_X10_isPathHere [mR (some 188)] (pF I (nI fr) m S, J) = some (some (mI y), (pF I (nI p') (nI l') S', J)) ∧ p' ≤ T ∧ PEn Q T to (q_X4_readFrom 12 Q P (nI fr) (nI to)) y p' (gP_X4_readFrom 12 Q P (nI fr) (nI to)) l' S' := by
  have T4 := t.1.1
  have m3 : ∀ a m S, pF I a m S 188 3 = nI T := fun a m S => by rw [pF_k _ _ _ _ (by decide) (by decide)]; exact t.2.1
  unfold q_X4_readFrom gP_X4_readFrom o_X4_readFrom
  rw [E_X10_isPathHere, nI_sub hft]
  simp only [h.wi, Option.bind_some, pF_s15, h.fi, pF_2, m3, h.f0]
  have n1 : nI (to - fr) = 1 ↔ to - fr = 1 := nI_eq (b := 1) (by omega) (by decide)
  have z0 : (0 : Int32) = nI 0 := rfl
  have pz : Pth (uv P 0 1 0) S 0 := ⟨uv_s _ _ _ _, fun k hk => by omega⟩
  by_cases e : fr = to
  · subst e
    rw [Nat.sub_self, if_neg (show ¬ nI 0 = 1 by decide)]
    have ev : lp_X4_readFrom 12 Q (nI fr) (12 + 1) (nI fr) (uv P 0 1 0) = (0, uv P 0 1 0) := by
      show (if nI fr ≤ nI fr then (if (uv P 0 1 0 0 1) ≤ 0 then 0 else 1, uv P 0 1 0) else _) = _
      rw [if_pos (Int32.le_refl _), uv_s, if_pos (Int32.le_refl _)]
    rw [ev]
    by_cases z : fr = T
    · rw [if_pos (by rw [z])]
      refine ⟨0, fr, 0, S, ?_, hto, Or.inr ⟨rfl, Or.inl rfl⟩⟩
      simp [nI_0]
    · have lt : fr < T := by omega
      rw [if_neg (fun w => z ((nI_eq (by omega) (by omega)).mp w)), t.ld h _ _ S lt rfl, Option.bind_some, hend.resolve_left z, if_neg (show ¬ (32 : Int32) = 47 by decide)]
      refine ⟨0, fr, 0, S, ?_, hto, Or.inr ⟨rfl, Or.inl rfl⟩⟩
      simp [nI_0]
  · have lt : fr < T := by omega
    rw [if_neg (fun w => absurd ((nI_eq (by omega) (by omega)).mp w) (by omega)), t.ld h _ _ S lt rfl, Option.bind_some]
    by_cases sl : Q 1 fr = 47
    · rw [if_pos sl]
      by_cases one : to - fr = 1
      · rw [if_pos (n1.mpr one), t.1.in lt, if_pos sl]
        have fin : ∀ (b : Option MO), b = some (some (mI 1), (pF I (nI (fr + 1)) 0 S, J)) → ∃ y p' l' S', b = some (some (mI y), (pF I (nI p') (nI l') S', J)) ∧ p' ≤ T ∧ PEn Q T to 1 y p' (uv P 0 1 0) l' S' := fun b hb => ⟨1, fr + 1, 0, S, hb, by omega, Or.inl ⟨rfl, rfl, by omega, by omega, pz⟩⟩
        apply fin
        rw [nI_1]
        by_cases e1 : fr + 1 = T
        · rw [if_pos (by rw [e1]), pF_s2]
          simp
        · have to' : to = fr + 1 := by omega
          rw [if_neg (fun w => e1 ((nI_eq (by omega) (by omega)).mp w)), t.ld h _ _ S (show fr + 1 < T by omega) rfl, Option.bind_some, ← to', hend.resolve_left (by omega), if_pos rfl, pF_s2]
          simp
      · rw [if_neg (fun w => one (n1.mp w)), nI_1, if_neg (fun w => absurd ((nI_eq (by omega) (by omega)).mp w) (by omega)), t.ld h _ _ S (show fr + 1 < T by omega) rfl, Option.bind_some, if_neg (hnb (fr + 1) (by omega) (by omega)), z0]
        rw [← z0]
        exact path_loop t h hto hend 13 0 fr S (uv P 0 1 0) (by omega) hft (Or.inr (by omega)) (by omega) hnb pz
    · rw [if_neg sl]
      have fin : ∀ (b : Option MO) (c : Int32) (P' : RouV), b = some (some (mI 0), (pF I (nI fr) 0 S, J)) → c = 0 → ∃ y p' l' S', b = some (some (mI y), (pF I (nI p') (nI l') S', J)) ∧ p' ≤ T ∧ PEn Q T to c y p' P' l' S' := fun b c P' hb hc => ⟨0, fr, 0, S, hb, by omega, Or.inr ⟨hc, Or.inl rfl⟩⟩
      apply fin
      · simp
      · by_cases one : nI (to - fr) = 1
        · rw [if_pos one, t.1.in lt, if_neg sl]
        · rw [if_neg one]
          show (if nI to ≤ nI fr then _ else if (q_X5_at Q (nI fr)) = 47 then _ else ((0 : Int32), uv P 0 1 0)).1 = 0
          rw [if_neg (nI_ge (by omega) (by omega)), t.1.in lt, if_neg sl]

/-! A world kept at a place made anew; one brought back. -/
theorem WorL.ex {J J' : MJ} {o n m c y z b : Nat} (h : WorL J o n m c y) (g : Ex J J' z b) (e : o < b) (e2 : o ≠ z) : WorL J' o n m c y := by
  unfold WorL
  rw [(g o e e2).1, (g o e e2).2]
  exact h
theorem t_keep_new {J : MJ} {h z o2 n2 m2 g2 z2 w2 p q : Nat} (hL : HisL J h z) (hO2 : WorL J o2 n2 m2 g2 z2) (hH2 : HanL J g2) (hW2 : WksL J z2 w2) (hN2 : NodL J n2) (hM2 : MemL J m2 n2) (hr : jR J z p = none) (I : MI) (d1 : n2 + 6 ≤ sz (I, J)) (d2 : m2 + 12 ≤ sz (I, J)) (d3 : g2 < sz (I, J)) (d4 : w2 + 24 ≤ sz (I, J)) (d5 : h < sz (I, J)) (d6 : z < sz (I, J)) (d7 : o2 < sz (I, J)) (d8 : z2 < sz (I, J)) (n1 : n2 + 6 ≤ z ∨ z < n2) (n2' : m2 + 12 ≤ z ∨ z < m2) (n3 : w2 + 24 ≤ z ∨ z < w2) (n4 : z ≠ o2) (n5 : z ≠ h) (n6 : z ≠ z2) (n7 : z ≠ g2) (hp : I h 1 = nI p) (hq : I h 2 = nI q) (h1 : p < 20) (h2 : q ≤ 20) :
    ∃ I1 J1, M_X0_keep [mR (some h), mR (some o2)] (I, J) = some (none, (kpI (h_X8_copyFrom I1 n2 m2 g2 w2 (sz (I, J)) (sz (I, J) + 7) (sz (I, J) + 19) (sz (I, J) + 21)) h p q, J1)) ∧ sz (I1, J1) = sz (I, J) + 45 ∧ sl (I1, J1) = sl (I, J) + 1193 ∧ (∀ x, x < sz (I, J) → I1 x = I x ∧ J1.1 x = J.1 x ∧ jS J1 x = jS J x) ∧ Ex J J1 z (sz (I, J)) ∧ (∀ k, jR J1 z k = if k = p then some (sz (I, J) + 6) else jR J z k) ∧ KwL J1 (sz (I, J)) := by
  obtain ⟨s1, s2, s3, e1, c1, e2, k2, e3, g3, kw⟩ := n_world (I, J)
  generalize hc : sz (I, J) = c at *
  have c3 : sz s3 = c + 45 := by have := g3.1; rw [hc] at this; exact this
  have same : ∀ x, x < c → Sm (I, J) s3 x := fun x hx => g3.2.2 x (by rw [hc]; exact hx)
  obtain ⟨I3, J3⟩ := s3
  generalize hJ1 : ((J3.1, up2 J3.2.1 z p (some (c + 6)), J3.2.2) : MJ) = J1
  have kz : jS J3 z = (15, 20) := (same z d6).2.2.2.trans hL.2.2
  have kh3 : (jS J3 h).1 = 0 := (congrArg Prod.fst (same h d5).2.2.2).trans hL.1
  have rh3 : jR J3 h 0 = some z := (congrFun (same h d5).2.2.1 0).trans hL.2.1
  have jS1 : ∀ x, jS J1 x = jS J3 x := fun x => by rw [← hJ1]
  have jR1 : ∀ x, x ≠ z → jR J1 x = jR J3 x := fun x hx => by
    rw [← hJ1]
    funext y
    exact if_neg (fun q => hx q.1)
  have ex : Ex J J1 z c := fun x hx hz => ⟨(jR1 x hz).trans (same x hx).2.2.1, (jS1 x).trans (same x hx).2.2.2⟩
  have hL1 : HisL J1 h z := ⟨by rw [jS1]; exact kh3, by rw [jR1 h (Ne.symm n5)]; exact rh3, by rw [jS1]; exact kz⟩
  have up : ∀ x, c ≤ x → jR J1 x = jR J3 x ∧ jS J1 x = jS J3 x := fun x hx => ⟨jR1 x (by omega), jS1 x⟩
  have kw1 : KwL J1 c := by
    have b : Bl (J3.1, (fun x => if x = z then jR J1 z else jR J3 x), J3.2.2) J1 (c + 45) := fun x _ => by
      refine ⟨?_, jS1 x⟩
      show jR J1 x = if x = z then jR J1 z else jR J3 x
      by_cases e : x = z
      · rw [if_pos e, e]
      · rw [if_neg e, jR1 x e]
    have cg : ∀ x, c ≤ x → jR (J3.1, (fun x => if x = z then jR J1 z else jR J3 x), J3.2.2) x = jR J3 x := fun x hx => if_neg (show ¬ x = z by omega)
    refine KwL.up (b := c + 45) ?_ b (Nat.le_refl _)
    have kn := kw.1
    have ko := kw.2.1
    have km := kw.2.2.1
    have kg := kw.2.2.2.1
    have kk := kw.2.2.2.2
    refine ⟨?_, ?_, ?_, kg, ⟨kk.1, fun k hk => ⟨?_, ?_, ?_, (kk.2 k hk).2.2.2⟩⟩⟩
    · unfold NodL
      rw [cg c (Nat.le_refl _)]
      exact kn
    · unfold WorL
      rw [cg (c + 6) (by omega)]
      exact ko
    · unfold MemL
      rw [cg (c + 7) (by omega)]
      exact km
    · rw [cg (c + 20) (by omega)]
      exact (kk.2 k hk).1
    · unfold WalL
      rw [cg (c + 21 + 6 * k) (by omega)]
      exact (kk.2 k hk).2.1
    · unfold RouL
      rw [cg (c + 21 + 6 * k + 1) (by omega)]
      exact (kk.2 k hk).2.2.1
  have exN : NodL J1 n2 := by
    unfold NodL
    have u : ∀ x, n2 ≤ x → x < n2 + 6 → jR J1 x = jR J x ∧ jS J1 x = jS J x := fun x a b => ex x (by omega) (by omega)
    rw [(u n2 (by omega) (by omega)).1, (u n2 (by omega) (by omega)).2, (u (n2 + 1) (by omega) (by omega)).2, (u (n2 + 2) (by omega) (by omega)).2, (u (n2 + 3) (by omega) (by omega)).2, (u (n2 + 4) (by omega) (by omega)).2, (u (n2 + 5) (by omega) (by omega)).2]
    exact hN2
  have exM : MemL J1 m2 n2 := by
    unfold MemL
    have u : ∀ x, m2 ≤ x → x < m2 + 12 → jR J1 x = jR J x ∧ jS J1 x = jS J x := fun x a b => ex x (by omega) (by omega)
    rw [(u m2 (by omega) (by omega)).1, (u m2 (by omega) (by omega)).2, (u (m2 + 1) (by omega) (by omega)).2, (u (m2 + 2) (by omega) (by omega)).2, (u (m2 + 3) (by omega) (by omega)).2, (u (m2 + 4) (by omega) (by omega)).2, (u (m2 + 5) (by omega) (by omega)).2, (u (m2 + 6) (by omega) (by omega)).2, (u (m2 + 7) (by omega) (by omega)).2, (u (m2 + 8) (by omega) (by omega)).2, (u (m2 + 9) (by omega) (by omega)).2, (u (m2 + 10) (by omega) (by omega)).2, (u (m2 + 11) (by omega) (by omega)).2]
    exact hM2
  have exO : WorL J1 o2 n2 m2 g2 z2 := hO2.ex ex d7 (Ne.symm n4)
  have exH : HanL J1 g2 := ⟨(ex g2 d3 (Ne.symm n7)).2.trans hH2.s0, rfl⟩
  have exW : WksL J1 z2 w2 := by
    refine ⟨?_, fun k hk => ⟨?_, ?_, ?_, ?_⟩⟩
    · rw [(ex z2 d8 (Ne.symm n6)).2]; exact hW2.1
    · rw [(ex z2 d8 (Ne.symm n6)).1]; exact (hW2.2 k hk).1
    · unfold WalL
      rw [(ex (w2 + 6 * k) (by omega) (by omega)).1, (ex (w2 + 6 * k) (by omega) (by omega)).2]
      exact (hW2.2 k hk).2.1
    · unfold RouL
      rw [(ex (w2 + 6 * k + 1) (by omega) (by omega)).1, (ex (w2 + 6 * k + 1) (by omega) (by omega)).2, (ex (w2 + 6 * k + 1 + 1) (by omega) (by omega)).2]
      exact (hW2.2 k hk).2.2.1
    · unfold BufL
      rw [(ex (w2 + 6 * k + 3) (by omega) (by omega)).2, (ex (w2 + 6 * k + 3 + 1) (by omega) (by omega)).2, (ex (w2 + 6 * k + 3 + 2) (by omega) (by omega)).2]
      exact (hW2.2 k hk).2.2.2
  refine ⟨I3, J1, ?_, ?_, ?_, fun x hx => ⟨(same x hx).1, ?_, (jS1 x).trans (same x hx).2.2.2⟩, ex, ?_, kw1⟩
  · have i3 : ∀ k, I3 h k = I h k := fun k => congrFun (same h d5).1 k
    have ho : ∀ k, h_X8_copyFrom I3 n2 m2 g2 w2 c (c + 7) (c + 19) (c + 21) h k = I h k := fun k => (congrFun (h_copy_out I3 _ _ _ _ _ _ _ _ h (by omega) (by omega) (by omega) (by omega)) k).trans (i3 k)
    rw [E_X0_keep, fI_ok 1 hL.1, Option.bind_some, hp, if_neg (nI_pos (by omega)), Option.bind_some, fR_ok 0 hL.1, Option.bind_some, hL.2.1, Option.bind_some, aln_ok hL.2.2 (by decide), Option.bind_some, if_pos (by rw [i32_lt, nI_toInt (by omega), nI_toInt (by omega)]; omega), Option.bind_some, Option.bind_some, Option.bind_some, ldR_ok _ hL.2.2 (by decide) (inb_nI h1 (by decide)), Option.bind_some, show (nI p).toNatClampNeg = p from ix_nI (by omega), hr, cR_n, hc, if_pos (by have := al_kd (I, J) 2 7; rwa [hc] at this), e1]
    simp only [Option.bind_some, asV_n]
    rw [show sz (al s1 8 4) = c + 7 by show sz s1 + 1 = _; omega, if_pos (by have := al_kd (al s1 8 4) 1 17; rwa [show sz (al s1 8 4) = c + 7 by show sz s1 + 1 = _; omega] at this), e2]
    simp only [Option.bind_some, asV_n]
    rw [c1, if_pos (congrArg Prod.fst k2), e3]
    simp only [Option.bind_some, asV_n]
    rw [fR_ok 0 kh3, Option.bind_some, fI_ok 1 kh3, Option.bind_some, rh3, Option.bind_some, i3 1, hp]
    have es : stR (I3, J3) z (nI p) (some (c + 6)) = some (I3, J1) := by
      unfold stR
      rw [if_pos, show (nI p).toNatClampNeg = p from ix_nI (by omega), ← hJ1]
      refine ⟨by rw [show kd (I3, J3) z = 15 from congrArg Prod.fst kz]; decide, ?_, ?_⟩
      · rw [show ln (I3, J3) z = 20 from congrArg Prod.snd kz]
        exact inb_nI h1 (by decide)
      · have k8 : kd (I3, J3) (c + 6) = 8 := kw.2.1.k
        rw [show kd (I3, J3) z = 15 from congrArg Prod.fst kz]
        show (15 == 13 && kd (I3, J3) (c + 6) == 4 || 15 == 14 && kd (I3, J3) (c + 6) == 7 || 15 == 15 && kd (I3, J3) (c + 6) == 8) = true
        rw [k8]
        rfl
    rw [es, Option.bind_some, if_pos (show kd (I3, J1) (c + 6) = 8 from kw1.2.1.k), t_X8_copyFrom exO exH exW exN exM kw1.2.1 kw1.2.2.2.1 kw1.2.2.2.2 kw1.1 kw1.2.2.1 (by omega) (by omega) (by omega) (by omega) (by omega) (by omega) (by omega) (by omega) I3, Option.bind_some, asV_n, Option.bind_some]
    exact kp_tail hL1 _ ((ho 1).trans hp) ((ho 2).trans hq) h1 h2
  · rw [← hJ1]; exact c3
  · rw [← hJ1]; exact g3.2.1
  · rw [← hJ1]; exact (same x hx).2.1
  · intro k
    rw [← hJ1]
    show (if z = z ∧ k = p then _ else jR J3 z k) = _
    by_cases e : k = p
    · rw [if_pos ⟨rfl, e⟩, if_pos e]
    · rw [if_neg (fun q => e q.2), if_neg e]
      exact congrFun (same z d6).2.2.1 k
/-- the place kept last -/
def bkp (p : Nat) : Nat := if p = 0 then 19 else p - 1
theorem bk_lat {p : Nat} (h : p < 20) : (if nI p ≤ 0 then nI 20 - 1 else nI p - 1) = nI (bkp p) := by
  unfold bkp
  by_cases e : p = 0
  · subst e; rfl
  · rw [if_neg (by rw [i32_le, nI_toInt (by omega)]; exact fun h => e (by have : (0 : Int32).toInt = 0 := rfl; omega)), if_neg e]
    have : nI p = nI (p - 1) + 1 := by rw [nI_1, show p - 1 + 1 = p by omega]
    rw [this]
    exact Int32.add_sub_cancel _ _
theorem t_bringBack0 {J : MJ} {h z o p q : Nat} (hL : HisL J h z) (I : MI) (hp : I h 1 = nI p) (hq : I h 2 = nI 0) (h1 : p < 20) : M_X0_bringBack [mR (some h), mR (some o)] (I, J) = some (some (mI 0), (I, J)) := by
  rw [E_X0_bringBack]
  simp only [fI_ok 1 hL.1, fI_ok 2 hL.1, fR_ok 0 hL.1, hL.2.1, aln_ok hL.2.2 (by decide), Option.bind_some, hp, hq]
  rw [if_pos (show nI 0 = 0 from rfl), if_pos (show nI 0 = 0 from rfl)]
  split <;> simp
theorem t_bringBack {J : MJ} {h z o n m g y w p q a : Nat} (hL : HisL J h z) (hO : WorL J o n m g y) (hH : HanL J g) (hW : WksL J y w) (hN : NodL J n) (hM : MemL J m n) (hK : KwL J a) (hr : jR J z (bkp p) = some (a + 6)) (d1 : n + 6 ≤ a) (d2 : m + 12 ≤ a) (d3 : g < a) (d4 : w + 24 ≤ a) (d0 : n + 6 ≤ m ∨ m + 12 ≤ n) (dh : (h < n ∨ n + 6 ≤ h) ∧ (h < m ∨ m + 12 ≤ h) ∧ h ≠ g ∧ (h < w ∨ w + 24 ≤ h)) (I : MI) (hp : I h 1 = nI p) (hq : I h 2 = nI (q + 1)) (h1 : p < 20) (h2 : q < 20) : M_X0_bringBack [mR (some h), mR (some o)] (I, J) = some (some (mI 1), (up2 (up2 (h_X8_copyFrom I a (a + 7) (a + 19) (a + 21) n m g w) h 1 (nI (bkp p))) h 2 (nI q), J)) := by
  have hb : bkp p < 20 := by unfold bkp; split <;> omega
  have hlat := bk_lat h1
  have ho : ∀ k, h_X8_copyFrom I a (a + 7) (a + 19) (a + 21) n m g w h k = I h k := fun k => congrFun (h_copy_out I _ _ _ _ _ _ _ _ h dh.1 dh.2.1 dh.2.2.1 dh.2.2.2) k
  have nq : ¬ nI (q + 1) = 0 := fun e => by
    have := congrArg Int32.toInt e
    rw [nI_toInt (by omega)] at this
    have e0 : (0 : Int32).toInt = 0 := rfl
    omega
  have u2 : ∀ v, up2 (h_X8_copyFrom I a (a + 7) (a + 19) (a + 21) n m g w) h 1 v h 2 = nI (q + 1) := fun v => by
    show (if h = h ∧ 2 = 1 then _ else _) = _
    rw [if_neg (by simp), ho, hq]
  have eq1 : nI (q + 1) - 1 = nI q := by rw [← nI_1]; exact Int32.add_sub_cancel _ _
  have body : ∀ v : Int32, v = nI (bkp p) → (if nI (q + 1) = 0 then (if (0 : Int32) = 0 ∨ (0 : Int32) = 1 then some (some (mI 0), (I, J)) else none) else (if v < 0 then (if (0 : Int32) = 0 ∨ (0 : Int32) = 1 then some (some (mI 0), (I, J)) else none) else (if nI 20 ≤ v then (if (0 : Int32) = 0 ∨ (0 : Int32) = 1 then some (some (mI 0), (I, J)) else none) else (ldR (I, J) z v).bind fun v10 => (cR v10 ((if (0 : Int32) = 0 ∨ (0 : Int32) = 1 then some (some (mI 0), (I, J)) else none)) ((ldR (I, J) z v).bind fun v13 => (if kd (I, J) o = 8 then (M_X8_copyFrom [mR (some o), mR v13] (I, J)).bind fun u15 => (asV u15.1).bind fun _ => (wI u15.2 0 h 1 v).bind fun s16 => (fI s16 0 h 2).bind fun v17 => (wI s16 0 h 2 (v17 - 1)).bind fun s18 => (if (1 : Int32) = 0 ∨ (1 : Int32) = 1 then some (some (mI 1), s18) else none) else none)))))) = some (some (mI 1), (up2 (up2 (h_X8_copyFrom I a (a + 7) (a + 19) (a + 21) n m g w) h 1 (nI (bkp p))) h 2 (nI q), J)) := by
    intro v hv
    subst hv
    rw [if_neg nq, if_neg (nI_pos (by omega)), if_neg (nI_ge hb (by decide)), ldR_ok _ hL.2.2 (by decide) (inb_nI hb (by decide)), Option.bind_some, show (nI (bkp p)).toNatClampNeg = bkp p from ix_nI (by omega), hr, cR_s, Option.bind_some, if_pos (show kd (I, J) o = 8 from hO.k), t_X8_copyFrom hK.2.1 hK.2.2.2.1 hK.2.2.2.2 hK.1 hK.2.2.1 hO hH hW hN hM (by omega) (by omega) d0 (by omega) (by omega) (by omega) (by omega) (by omega) I]
    simp only [Option.bind_some, asV_n, wI_ok 1 _ hL.1, wI_ok 2 _ hL.1, fI_ok 2 hL.1, u2, eq1]
    simp
  rw [E_X0_bringBack]
  simp only [fI_ok 1 hL.1, fI_ok 2 hL.1, fR_ok 0 hL.1, hL.2.1, aln_ok hL.2.2 (by decide), Option.bind_some, hp, hq]
  by_cases e : nI p ≤ 0
  · rw [if_pos e] at hlat
    rw [if_pos e]
    exact body _ hlat
  · rw [if_neg e] at hlat
    rw [if_neg e]
    exact body _ hlat

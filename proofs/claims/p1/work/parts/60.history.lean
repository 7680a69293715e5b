/-! Worlds kept, and brought back. -/
def KwL (J : MJ) (a : Nat) : Prop := NodL J a ∧ WorL J (a + 6) a (a + 7) (a + 19) (a + 20) ∧ MemL J (a + 7) a ∧ HanL J (a + 19) ∧ WksL J (a + 20) (a + 21)
theorem KwL.up {J J' : MJ} {a b : Nat} (h : KwL J a) (g : Bl J J' b) (e : a + 45 ≤ b) : KwL J' a := ⟨h.1.up g (by omega), h.2.1.up g (by omega), h.2.2.1.up g (by omega), h.2.2.2.1.up g (by omega), h.2.2.2.2.up g (by omega) (by omega)⟩
/-- layouts at other places than z -/
def Ex (J J' : MJ) (z b : Nat) : Prop := ∀ x, x < b → x ≠ z → jR J' x = jR J x ∧ jS J' x = jS J x
theorem n_world (s : MH) : ∃ s1 s2 s3, M_X2_init [mR (some (sz s))] (al s 2 7) = some (none, s1) ∧ sz s1 = sz s + 6 ∧ M_X1_init [mR (some (sz s + 7)), mR (some (sz s))] (al (al s1 8 4) 1 17) = some (none, s2) ∧ s2.2.2.2.1 (sz s + 6) = (8, 4) ∧ M_X8_init [mR (some (sz s + 6)), mR (some (sz s)), mR (some (sz s + 7))] s2 = some (none, s3) ∧ Gw s s3 45 1193 ∧ KwL s3.2 (sz s) := by
  obtain ⟨s1, e1, g1, l1, z1⟩ := n_X2 s
  have c1 : sz s1 = sz s + 6 := g1.1
  have ga := al_gw s1 8 4
  have ca : sz (al s1 8 4) = sz s + 7 := by show sz s1 + 1 = _; omega
  obtain ⟨s2, e2, g2, l2, z2⟩ := n_X1 (al s1 8 4) (sz s)
  rw [ca] at e2 l2 z2
  have c2 : sz s2 = sz s + 19 := by rw [g2.1, ca]
  have ko : s2.2.2.2.1 (sz s + 6) = (8, 4) := by
    rw [(g2.2.2 (sz s + 6) (by omega)).2.2.2]
    have := al_k s1 8 4
    rwa [c1] at this
  have ro : ∀ k, s2.2.2.1 (sz s + 6) k = none := fun k => by
    rw [(g2.2.2 (sz s + 6) (by omega)).2.2.1]
    show (if sz s + 6 = sz s1 then none else _) = none
    rw [if_pos c1.symm]
  obtain ⟨s3, e3, q1, q2, q3, q4, q5, q6, q7, q8, q9, q10, q11⟩ := c_X8_init (s := s2) (o := sz s + 6) (n := sz s) (m := sz s + 7) (by omega) ko ro
  rw [c2] at q7 q8 q9 q10 q11
  refine ⟨s1, s2, s3, e1, c1, e2, ko, e3, ⟨by omega, ?_, fun x hx => ?_⟩, ?_⟩
  · rw [q2, g2.2.1]
    show sl s1 + 4 + 537 + 402 = _
    rw [g1.2.1]
  · exact (((g1.2.2 x hx).trans (ga.2.2 x (by omega))).trans (g2.2.2 x (by omega))).trans (q3 x (by omega) (by omega))
  · have b13 : ∀ x, x < sz s + 19 → x ≠ sz s + 6 → Sm s2 s3 x := fun x h1 h2 => q3 x (by omega) h2
    have b1 : Bl s1.2 s3.2 (sz s + 6) := fun x hx => by
      have := ((ga.2.2 x (by omega)).trans (g2.2.2 x (by omega))).trans (b13 x (by omega) (by omega))
      exact ⟨this.2.2.1, this.2.2.2⟩
    refine ⟨l1.up b1 (Nat.le_refl _), q7, ?_, q8, q9⟩
    have u : ∀ x, sz s + 7 ≤ x → x < sz s + 19 → jR s3.2 x = jR s2.2 x ∧ jS s3.2 x = jS s2.2 x := fun x h1 h2 => by
      have := b13 x h2 (by omega)
      exact ⟨this.2.2.1, this.2.2.2⟩
    unfold MemL
    rw [(u (sz s + 7) (by omega) (by omega)).1, (u (sz s + 7) (by omega) (by omega)).2, (u (sz s + 7 + 1) (by omega) (by omega)).2, (u (sz s + 7 + 2) (by omega) (by omega)).2, (u (sz s + 7 + 3) (by omega) (by omega)).2, (u (sz s + 7 + 4) (by omega) (by omega)).2, (u (sz s + 7 + 5) (by omega) (by omega)).2, (u (sz s + 7 + 6) (by omega) (by omega)).2, (u (sz s + 7 + 7) (by omega) (by omega)).2, (u (sz s + 7 + 8) (by omega) (by omega)).2, (u (sz s + 7 + 9) (by omega) (by omega)).2, (u (sz s + 7 + 10) (by omega) (by omega)).2, (u (sz s + 7 + 11) (by omega) (by omega)).2]
    exact l2
theorem cpw_out (w2 w k : Nat) (I : MI) (x : Nat) (h : x < w + 6 * k ∨ w + 6 * k + 6 ≤ x) : cpw w2 w k I x = I x := by
  unfold cpw
  rw [pt_out (x := x) (by omega), pt_out (x := x) (by omega), pt_out (x := x) (by omega)]
theorem h_copy_out (I : MI) (n2 m2 g2 w2 n m g w x : Nat) (h1 : x < n ∨ n + 6 ≤ x) (h2 : x < m ∨ m + 12 ≤ x) (h3 : x ≠ g) (h4 : x < w ∨ w + 24 ≤ x) : h_X8_copyFrom I n2 m2 g2 w2 n m g w x = I x := by
  unfold h_X8_copyFrom
  show cpw w2 w 3 (cpw w2 w 2 (cpw w2 w 1 (cpw w2 w 0 _))) x = _
  rw [cpw_out _ _ _ _ _ (by omega), cpw_out _ _ _ _ _ (by omega), cpw_out _ _ _ _ _ (by omega), cpw_out _ _ _ _ _ (by omega)]
  funext y
  show (if x = g ∧ y < 6 then _ else _) = _
  rw [if_neg (fun q => h3 q.1), pt_out (x := x) h2, pt_out (x := x) h1]
def HisL (J : MJ) (a z : Nat) : Prop := (jS J a).1 = 0 ∧ jR J a 0 = some z ∧ jS J z = (15, 20)
def kpI (I : MI) (a p q : Nat) : MI := up2 (up2 I a 1 (nI (if p + 1 < 20 then p + 1 else 0))) a 2 (nI (min (q + 1) 20))
theorem kp_tail {J : MJ} {a z p q : Nat} (hL : HisL J a z) (I : MI) (hp : I a 1 = nI p) (hq : I a 2 = nI q) (h1 : p < 20) (h2 : q ≤ 20) : ((fI (I, J) 0 a 1).bind fun v67 => (fR (I, J) 0 a 0).bind fun v68 => v68.bind fun b70 => (aln (I, J) b70).bind fun v69 => (if v69 ≤ (v67 + 1) then (wI (I, J) 0 a 1 0).bind fun s71 => (fI s71 0 a 2).bind fun v72 => (fR s71 0 a 0).bind fun v73 => v73.bind fun b75 => (aln s71 b75).bind fun v74 => (wI s71 0 a 2 (if v74 < (v72 + 1) then v74 else (v72 + 1))).bind fun s76 => some ((none : Option MV), s76) else (fI (I, J) 0 a 1).bind fun v77 => (wI (I, J) 0 a 1 (v77 + 1)).bind fun s78 => (fI s78 0 a 2).bind fun v79 => (fR s78 0 a 0).bind fun v80 => v80.bind fun b82 => (aln s78 b82).bind fun v81 => (wI s78 0 a 2 (if v81 < (v79 + 1) then v81 else (v79 + 1))).bind fun s83 => some (none, s83))) = some (none, (kpI I a p q, J)) := by
  have hm : (if nI 20 < nI q + 1 then nI 20 else nI q + 1) = nI (min (q + 1) 20) := by
    rw [nI_1]
    by_cases e : q = 20
    · subst e; rfl
    · rw [if_neg (by rw [i32_lt, nI_toInt (by omega), nI_toInt (by omega)]; omega), show min (q + 1) 20 = q + 1 by omega]
  have u2 : ∀ v, up2 I a 1 v a 2 = nI q := fun v => by
    show (if a = a ∧ 2 = 1 then _ else _) = _
    rw [if_neg (by simp), hq]
  simp only [fI_ok 1 hL.1, fI_ok 2 hL.1, fR_ok 0 hL.1, hL.2.1, aln_ok hL.2.2 (by decide), wI_ok 1 _ hL.1, wI_ok 2 _ hL.1, Option.bind_some, hp, u2, hm]
  rw [nI_1]
  unfold kpI
  by_cases e : p + 1 < 20
  · rw [if_neg (by rw [i32_le, nI_toInt (by omega), nI_toInt (by omega)]; omega), if_pos e]
  · rw [if_pos (by rw [i32_le, nI_toInt (by omega), nI_toInt (by omega)]; omega), if_neg e]
    rfl
theorem t_keep_old {J : MJ} {h z o2 n2 m2 g2 z2 w2 p q a : Nat} (hL : HisL J h z) (hO2 : WorL J o2 n2 m2 g2 z2) (hH2 : HanL J g2) (hW2 : WksL J z2 w2) (hN2 : NodL J n2) (hM2 : MemL J m2 n2) (hK : KwL J a) (hr : jR J z p = some (a + 6)) (d1 : n2 + 6 ≤ a) (d2 : m2 + 12 ≤ a) (d3 : g2 < a) (d4 : w2 + 24 ≤ a) (d5 : h < a) (I : MI) (hp : I h 1 = nI p) (hq : I h 2 = nI q) (h1 : p < 20) (h2 : q ≤ 20) : M_X0_keep [mR (some h), mR (some o2)] (I, J) = some (none, (kpI (h_X8_copyFrom I n2 m2 g2 w2 a (a + 7) (a + 19) (a + 21)) h p q, J)) := by
  have ho : ∀ k, h_X8_copyFrom I n2 m2 g2 w2 a (a + 7) (a + 19) (a + 21) h k = I h k := fun k => congrFun (h_copy_out I _ _ _ _ _ _ _ _ h (by omega) (by omega) (by omega) (by omega)) k
  rw [E_X0_keep, fI_ok 1 hL.1, Option.bind_some, hp, if_neg (nI_pos (by omega)), Option.bind_some, fR_ok 0 hL.1, Option.bind_some, hL.2.1, Option.bind_some, aln_ok hL.2.2 (by decide), Option.bind_some, if_pos (by rw [i32_lt, nI_toInt (by omega), nI_toInt (by omega)]; omega), Option.bind_some, Option.bind_some, Option.bind_some, ldR_ok _ hL.2.2 (by decide) (inb_nI h1 (by decide)), Option.bind_some, show (nI p).toNatClampNeg = p from ix_nI (by omega), hr, cR_s, Option.bind_some, if_pos (show kd (I, J) (a + 6) = 8 from hK.2.1.k), t_X8_copyFrom hO2 hH2 hW2 hN2 hM2 hK.2.1 hK.2.2.2.1 hK.2.2.2.2 hK.1 hK.2.2.1 (by omega) (by omega) (by omega) (by omega) (by omega) (by omega) (by omega) (by omega) I, Option.bind_some, asV_n, Option.bind_some]
  exact kp_tail hL _ ((ho 1).trans hp) ((ho 2).trans hq) h1 h2

/-! Acts with a path: how they begin and end; look. -/
/-- the reference's heap where it has read a path and kept -/
def zH (I1 : MI) (n p' l' : Nat) (S' : RowV) (pp qq : Nat) : MI := kpR (pF (bgP I1 n) (nI p') (nI l') S') pp qq
theorem zH_o (I1 : MI) (n p' l' : Nat) (S' : RowV) (pp qq : Nat) {x : Nat} (h1 : x ≠ 188) (h2 : x ≠ 192) (h3 : x ≠ 199) : zH I1 n p' l' S' pp qq x = I1 x := by
  unfold zH
  rw [kpR_o _ _ _ h1 h3, pF_o _ _ _ _ h1 h2, bgP_o _ _ h1]
theorem zH_k (I1 : MI) (n p' l' : Nat) (S' : RowV) (pp qq : Nat) {k : Nat} (h1 : k ≠ 1) (h2 : k ≠ 2) (h3 : k ≠ 3) (h15 : k ≠ 15) (h28 : k ≠ 28) (h29 : k ≠ 29) : zH I1 n p' l' S' pp qq 188 k = I1 188 k := by
  unfold zH
  rw [kpR_k _ _ _ h28 h29, pF_k _ _ _ _ h2 h15, bgP_k _ _ h1 h2 h3]
theorem zH_1 (I1 : MI) (n p' l' : Nat) (S' : RowV) (pp qq : Nat) : zH I1 n p' l' S' pp qq 188 1 = 0 ∧ zH I1 n p' l' S' pp qq 188 15 = nI l' ∧ zH I1 n p' l' S' pp qq 192 = S' ∧ zH I1 n p' l' S' pp qq 188 29 = nI pp ∧ zH I1 n p' l' S' pp qq 188 28 = nI qq := by
  unfold zH
  refine ⟨?_, ?_, ?_, (kpR_29 _ _ _).1, (kpR_29 _ _ _).2⟩
  · rw [kpR_k _ _ _ (by decide) (by decide), pF_k _ _ _ _ (by decide) (by decide)]
    exact (bgP_3 _ _).2.1
  · rw [kpR_k _ _ _ (by decide) (by decide), pF_15]
  · rw [kpR_o _ _ _ (by decide) (by decide), pF_S]
theorem zH_a (I1 : MI) (n p' l' : Nat) (S' : RowV) (pp qq : Nat) : (∀ k, k < 1853 → zH I1 n p' l' S' pp qq 199 (1853 * pp + k) = I1 194 k) ∧ ∀ s k, s ≠ pp → k < 1853 → zH I1 n p' l' S' pp qq 199 (1853 * s + k) = I1 199 (1853 * s + k) := by
  have a := kpR_a (pF (bgP I1 n) (nI p') (nI l') S') pp qq
  unfold zH
  rw [pF_o _ _ _ _ (by decide) (by decide), bgP_o _ _ (by decide), pF_o _ _ _ _ (by decide) (by decide), bgP_o _ _ (by decide)] at a
  exact a
theorem ref_pre {I I1 : MI} {J1 : MJ} {n p q : Nat} (r1 : RefL J1) (t1 : Tap (vw 2 I 7) n) (t2 : I 188 1 = nI n) (t3 : ∀ k, k < n → I 189 k = I 8 k) (hy : (rowO I n).1 = 1) (hv : ¬ I 1 6 ≤ 0) (e188 : I1 188 = I 188) (e189 : I1 189 = I 189) (hp : I 188 29 = nI p) (p20 : p < 20) (hq : I 188 28 = nI q) (q20 : q ≤ 20) : ∃ p' l' S', M_X10_isPath [mR (some 188)] (I1, J1) = some (some (mI 1), (pF (bgP I1 n) (nI p') (nI l') S', J1)) ∧ M_X10_keeps [mR (some 188)] (pF (bgP I1 n) (nI p') (nI l') S', J1) = some (none, (zH I1 n p' l' S' ((p + 1) % 20) (min (q + 1) 20), J1)) ∧ l' ≤ 12 ∧ Pth (vw 2 (tkn I n) 158) S' l' := by
  obtain ⟨y, p', l', S', g1, g2⟩ := path1 (Y := I1) r1 t1 (by rw [e188]; exact t2) (fun j hj => by rw [e189]; exact t3 j hj)
  rcases g2 hv with ⟨_, c2, c3, c4⟩ | ⟨z, _⟩
  · subst c2
    refine ⟨p', l', S', g1, ?_, c3, ?_⟩
    · exact w_keeps r1 _ (by rw [pF_k _ _ _ _ (by decide) (by decide), bgP_k _ _ (by decide) (by decide) (by decide), e188]; exact hp) p20 (by rw [pF_k _ _ _ _ (by decide) (by decide), bgP_k _ _ (by decide) (by decide) (by decide), e188]; exact hq) q20
    · rw [vw_fr (I := (rowO I n).2) (fun x a b => tkn_r I n (by omega) (by omega))]
      exact c4
  · exact absurd hy z
/-- how an act with a path ends -/
theorem St.fin {I X I1 I2 : MI} {J J1 : MJ} {T B0 vol p q n p' l' : Nat} {S' : RowV} (h : St I J T B0) (h30 : T + 10001 ≤ 1000000000) (hv : I 188 11 = nI vol) (ht : ¬ bz (I 188 13) = 0) (kf : KpF (tkn I n) J p q vol T B0 (I 194) X J1) (x1 : ∀ x, (7 ≤ x ∧ x < 17) ∨ 55 ≤ x ∨ x = 0 → x ≠ 186 → I1 x = X x) (z2 : ∀ x, x ≠ 188 → x ≠ 190 → x ≠ 194 → x ≠ 195 → I2 x = zH I1 n p' l' S' ((p + 1) % 20) (min (q + 1) 20) x) (zk : ∀ k, k ≠ 22 → I2 188 k = zH I1 n p' l' S' ((p + 1) % 20) (min (q + 1) 20) 188 k) (s3 : S3 I2) (w : Wd I2 1 17 29 31 (I2 194) vol (T + 10001)) : St I2 J1 (T + 10001) B0 := by
  have xo := kf.2.2.2.1
  have low : ∀ x, (8 ≤ x ∧ x < 17) ∨ (55 ≤ x ∧ x < 158) ∨ (183 ≤ x ∧ x < 208) ∨ x = 0 → x ≠ 67 → x ≠ 186 → x ≠ 188 → x ≠ 190 → x ≠ 192 → x ≠ 194 → x ≠ 195 → x ≠ 199 → I2 x = I x := fun x a b c d e f g i j => by
    rw [z2 x d e g i, zH_o _ _ _ _ _ _ _ d f j, x1 x (by omega) c, xo x (by omega) b, tkn_o _ _ (by omega) (by omega)]
  have e188 : I1 188 = I 188 := by rw [x1 188 (by omega) (by decide), xo 188 (by decide) (by decide), tkn_o _ _ (by decide) (by decide)]
  have fld : ∀ k, k ≠ 1 → k ≠ 2 → k ≠ 3 → k ≠ 15 → k ≠ 22 → k ≠ 28 → k ≠ 29 → I2 188 k = I 188 k := fun k a b c d e f g => by
    rw [zk k e, zH_k _ _ _ _ _ _ _ a b c d f g, e188]
  have z1 := zH_1 I1 n p' l' S' ((p + 1) % 20) (min (q + 1) 20)
  have za := zH_a I1 n p' l' S' ((p + 1) % 20) (min (q + 1) 20)
  have e199 : I2 199 = zH I1 n p' l' S' ((p + 1) % 20) (min (q + 1) 20) 199 := z2 199 (by decide) (by decide) (by decide) (by decide)
  have i194 : I1 194 = I 194 := by rw [x1 194 (by omega) (by decide), xo 194 (by decide) (by decide), tkn_o _ _ (by decide) (by decide)]
  have i199 : I1 199 = I 199 := by rw [x1 199 (by omega) (by decide), xo 199 (by decide) (by decide), tkn_o _ _ (by decide) (by decide)]
  refine h.act h30 hv ht kf (tkn_o _ _ (by decide) (by decide)) (S1.emp ?_ ?_) s3 ⟨low 9 (by omega) (by decide) (by decide) (by decide) (by decide) (by decide) (by decide) (by decide) (by decide), low 69 (by omega) (by decide) (by decide) (by decide) (by decide) (by decide) (by decide) (by decide) (by decide), fun x a b => low x (by omega) (by omega) (by omega) (by omega) (by omega) (by omega) (by omega) (by omega) (by omega), low 202 (by omega) (by decide) (by decide) (by decide) (by decide) (by decide) (by decide) (by decide) (by decide), low 203 (by omega) (by decide) (by decide) (by decide) (by decide) (by decide) (by decide) (by decide) (by decide), fun k a => fld k (by omega) (by omega) (by omega) (by omega) (by omega) (by omega) (by omega)⟩ (h.2.2.2.2.1.fr (by rw [low 0 (by omega) (by decide) (by decide) (by decide) (by decide) (by decide) (by decide) (by decide) (by decide)]) (low 185 (by omega) (by decide) (by decide) (by decide) (by decide) (by decide) (by decide) (by decide) (by decide)) (fld 25 (by decide) (by decide) (by decide) (by decide) (by decide) (by decide) (by decide)) (low 197 (by omega) (by decide) (by decide) (by decide) (by decide) (by decide) (by decide) (by decide) (by decide))) (h.2.2.2.2.2.1.fr (by rw [low 0 (by omega) (by decide) (by decide) (by decide) (by decide) (by decide) (by decide) (by decide) (by decide)]) (low 187 (by omega) (by decide) (by decide) (by decide) (by decide) (by decide) (by decide) (by decide) (by decide)) (fld 32 (by decide) (by decide) (by decide) (by decide) (by decide) (by decide) (by decide)) (low 201 (by omega) (by decide) (by decide) (by decide) (by decide) (by decide) (by decide) (by decide) (by decide))) w ?_ ?_ ?_ ?_ ?_ ?_
  · rw [z2 7 (by decide) (by decide) (by decide) (by decide), zH_o _ _ _ _ _ _ _ (by decide) (by decide) (by decide), x1 7 (by omega) (by decide), xo 7 (by decide) (by decide)]
    exact tkn_7 I n
  · rw [zk 1 (by decide)]; exact z1.1
  · rw [z2 67 (by decide) (by decide) (by decide) (by decide), zH_o _ _ _ _ _ _ _ (by decide) (by decide) (by decide), x1 67 (by omega) (by decide)]
  · intro a ha
    rw [z2 a (by omega) (by omega) (by omega) (by omega), zH_o _ _ _ _ _ _ _ (by omega) (by omega) (by omega), x1 a (by omega) (by omega)]
  · rw [zk 28 (by decide)]; exact z1.2.2.2.2
  · rw [zk 29 (by decide)]; exact z1.2.2.2.1
  · intro k hk
    rw [e199, za.1 k hk, i194]
  · intro s k _ hs hk
    rw [e199, za.2 s k hs hk, i199]
/-- the world of a told state, and what keep makes of it behind a path -/
theorem Told.pre {I : MI} {J : MJ} {T B0 n : Nat} (h : St I J T B0) (h30 : T + 10001 ≤ 1000000000) (td : Told I J T B0) : ∃ vol p q nn t X J1, I 188 11 = nI vol ∧ ¬ bz (I 188 13) = 0 ∧ (I 188 29 = nI p ∧ p < 20 ∧ I 188 28 = nI q ∧ q ≤ 20) ∧ ¬ I 1 6 ≤ 0 ∧ Inv (vw 6 I 1) (vw 12 I 17) (vw 1 I 29) (wks I 31) nn vol t T (fun _ => 0) ∧ CntI (vw 12 I 17) ∧ Rel none (vw 6 I 1) (vw 12 I 17) (vw 1 I 29) (wks I 31) (I 194) nn ∧ M_X0_keep [mR (some 67), mR (some 16)] (tkn I n, J) = some (none, (X, J1)) ∧ KpF (tkn I n) J p q vol T B0 (I 194) X J1 ∧ (vw 6 X 1 = vw 6 I 1 ∧ vw 12 X 17 = vw 12 I 17 ∧ vw 1 X 29 = vw 1 I 29 ∧ (∀ x, 31 ≤ x → x < 55 → X x = I x) ∧ vw 2 X 158 = vw 2 (tkn I n) 158 ∧ vw 2 X 160 = vw 2 (tkn I n) 160 ∧ X 16 = I 16) := by
  obtain ⟨vol, ad, p, q, h1, h2, w, hs⟩ := td
  have ww := w
  obtain ⟨nn, t, i, c, r⟩ := w
  have o : ∀ x, x ≠ 7 → (x < 158 ∨ 183 ≤ x) → tkn I n x = I x := fun x a b => tkn_o I n a b
  have w' : Wd (tkn I n) 1 17 29 31 (I 194) vol T := ww.fr (fun x _ _ => o x (by omega) (by omega)) (fun x _ _ => o x (by omega) (by omega)) (o 29 (by decide) (by decide)) (fun x _ _ => o x (by omega) (by omega)) (fun _ _ => rfl)
  have hs' : His (tkn I n) J ad p q vol T B0 := hs.fr (o 67 (by decide) (by decide)) (by rw [o 188 (by decide) (by decide)]) (by rw [o 188 (by decide) (by decide)]) (o 199 (by decide) (by decide)) (fun a _ => o a (by omega) (by omega)) (Nat.le_refl _) (by omega)
  obtain ⟨X, J1, k1, k2⟩ := hs'.keep h.1.1 h.1.2 w'
  have xo : ∀ x, x < 158 → x ≠ 67 → x ≠ 7 → X x = I x := fun x a b d => by rw [k2.2.2.2.1 x (by omega) b, o x d (by omega)]
  refine ⟨vol, p, q, nn, t, X, J1, h1, h2, ⟨hs.2.1.2, hs.1.2.1, hs.2.1.1, hs.1.2.2.2⟩, ?_, i, c, r, k1, k2, vw_fr (fun x _ _ => xo x (by omega) (by omega) (by omega)), vw_fr (fun x _ _ => xo x (by omega) (by omega) (by omega)), vw_fr (fun x _ _ => xo x (by omega) (by omega) (by omega)), fun x _ _ => xo x (by omega) (by omega) (by omega), vw_fr (fun x _ _ => k2.2.2.2.1 x (by omega) (by omega)), vw_fr (fun x _ _ => k2.2.2.2.1 x (by omega) (by omega)), xo 16 (by decide) (by decide) (by decide)⟩
  have := i.N.vs
  have v := i.N.v3
  show ¬ vw 6 I 1 0 6 ≤ 0
  rw [this]
  exact nI_nle v.1 (by omega)
theorem vw_r {N : Nat} (I : MI) (D G : RowV) (c : Int32) {a : Nat} (h : a + N ≤ 188) : vw N (rF I D G c) a = vw N I a := vw_fr (fun x _ _ => rF_o _ _ _ _ (by omega) (by omega) (by omega))
theorem P_look {I : MI} {J : MJ} {T B0 : Nat} (h : St I J T B0) (h30 : T + 10001 ≤ 1000000000) : Pair I J T B0 (M_X9_look [mR (some 0)]) (M_X10_look [mR (some 188)]) := by
  obtain ⟨n, t1, t2, t3⟩ := h.2.1
  have T4 := t1.1
  by_cases hy : (rowO I n).1 = 1
  · rcases h.2.2.2.2.2.2.2.2.2 with td | u
    · obtain ⟨vol, p, q, nn, t, X, J1, hv, htd, ⟨hp, p20, hq, q20⟩, h6, i, c, r, k1, kf, e1, e2, e3, e4, e5, _, _⟩ := td.pre (n := n) h h30
      have uE := u_look h.1.1 I T4 t1.2.1 hy k1 kf.1
      obtain ⟨kl, rl, _, xo, _⟩ := kf
      have kf : KpF (tkn I n) J p q vol T B0 (I 194) X J1 := ⟨kl, rl, ‹_›, xo, ‹_›⟩
      rw [e1, e2] at uE
      generalize hV' : gV_X1_walk 12 (vw 2 X 158) (vw 6 I 1) (vw 12 I 17) (X 158 1) = V' at uE
      have x1 : ∀ x, (7 ≤ x ∧ x < 17) ∨ 55 ≤ x ∨ x = 0 → x ≠ 186 → pt X 17 V' x = X x := fun x a _ => pt_out (by omega)
      have lowX : ∀ x, 188 ≤ x → x < 208 → pt X 17 V' x = I x := fun x a b => by rw [x1 x (by omega) (by omega), xo x (by omega) (by omega), tkn_o _ _ (by omega) (by omega)]
      obtain ⟨p', l', S', g1, g2, l12, pth⟩ := ref_pre (I1 := pt X 17 V') rl t1 t2 t3 hy h6 (lowX 188 (by decide) (by decide)) (lowX 189 (by decide) (by decide)) hp p20 hq q20
      generalize hI1 : pt X 17 V' = I1 at uE x1 lowX g1 g2
      have z1 := zH_1 I1 n p' l' S' ((p + 1) % 20) (min (q + 1) 20)
      have zo := fun x a b c => zH_o I1 n p' l' S' ((p + 1) % 20) (min (q + 1) 20) (x := x) a b c
      have zk := fun k a b c d e f => zH_k I1 n p' l' S' ((p + 1) % 20) (min (q + 1) 20) (k := k) a b c d e f
      have f13 : pF (bgP I1 n) (nI p') (nI l') S' 188 13 = I 188 13 := by rw [pF_k _ _ _ _ (by decide) (by decide), bgP_k _ _ (by decide) (by decide) (by decide), lowX 188 (by decide) (by decide)]
      generalize hZ : zH I1 n p' l' S' ((p + 1) % 20) (min (q + 1) 20) = Z at g2 z1 zo zk
      have zD : Z 194 = I 194 := by rw [zo 194 (by decide) (by decide) (by decide), lowX 194 (by decide) (by decide)]
      have s8 := h.2.2.2.2.2.2.2.2.1
      have z20 : Z 188 20 = -1 := by rw [zk 20 (by decide) (by decide) (by decide) (by decide) (by decide) (by decide), lowX 188 (by decide) (by decide)]; exact s8.1
      have z21 : Z 188 21 = -1 := by rw [zk 21 (by decide) (by decide) (by decide) (by decide) (by decide) (by decide), lowX 188 (by decide) (by decide)]; exact s8.2
      have pX : vw 2 X 158 0 1 = nI l' := by rw [e5]; exact pth.1
      have x158 : X 158 1 = nI l' := pX
      have i2 := i.T (show T ≤ T + 10001 by omega) h30
      have tT := i.Z.tT
      obtain ⟨D', G', c', how, t', w1, w2, w3, w4, w5⟩ := r.walks i2 c (fun e _ z => absurd rfl z) rl Z (by rw [z20]; exact Or.inl ⟨rfl, fun _ => rfl⟩) z21 (Z 195) (Z 188 22) rl.s14 (by decide) (P := vw 2 X 158) (lp := l') (m := l') (L := 12) pX (Nat.le_refl _) l12 (by decide) (by omega) (fun k hk => by rw [z1.2.2.1, e5]; exact pth.2 k hk) (X 158 1) (by rw [x158, ix_nI (by omega)]) (by omega)
      rw [← zD, rF_id] at w1
      rw [hV'] at w2 w5
      have wd : Wd (rF Z D' G' c') 1 17 29 31 (rF Z D' G' c' 194) vol (T + 10001) := by
        have q1 : vw 6 (rF Z D' G' c') 1 = vw 6 I 1 := by
          rw [vw_r _ _ _ _ (by decide), ← e1]
          exact vw_fr (fun x _ _ => by rw [zo x (by omega) (by omega) (by omega), ← hI1, pt_out (by omega)])
        have q2 : vw 12 (rF Z D' G' c') 17 = V' := by
          rw [vw_r _ _ _ _ (by decide), vw_fr (I := I1) (fun x _ _ => zo x (by omega) (by omega) (by omega)), ← hI1, vw_pt]
        have q3 : vw 1 (rF Z D' G' c') 29 = vw 1 I 29 := by
          rw [vw_r _ _ _ _ (by decide), ← e3]
          exact vw_fr (fun x _ _ => by rw [zo x (by omega) (by omega) (by omega), ← hI1, pt_out (by omega)])
        have q4 : ∀ x, 31 ≤ x → x < 31 + 24 → rF Z D' G' c' x = I x := fun x a b => by
          rw [rF_o _ _ _ _ (by omega) (by omega) (by omega), zo x (by omega) (by omega) (by omega), ← hI1, pt_out (by omega), e4 x a (by omega)]
        have q5 : ∀ k, k < 4 → WkEq (wks (rF Z D' G' c') 31 k) (wks I 31 k) := fun k hk => by rw [wks_fr q4 hk]; exact WkEq.refl _
        refine ⟨nn, t', ?_, ?_, ?_⟩
        · rw [q1, q2, q3]
          exact w2.2.1.cg (UEq.refl _) (VEq.refl _) (fun _ _ => rfl) q5
        · rw [q2]; exact w2.2.2.1
        · rw [q1, q2, q3, rF_D]
          exact w2.1.cg i.N.n60 (UEq.refl _) (VEq.refl _) (fun _ _ => rfl) q5 (fun _ _ => rfl)
      have fin : St (rF Z D' G' c') J1 (T + 10001) B0 := by
        refine h.fin h30 hv htd kf x1 (n := n) (p' := p') (l' := l') (S' := S') (fun x a b d e => ?_) (fun k a => ?_) ?_ wd
        · rw [hZ, rF_o _ _ _ _ a d e]
        · rw [hZ, rF_k _ _ _ _ a]
        · refine h.2.2.2.1.fr ?_ ?_
          · rw [rF_o _ _ _ _ (by decide) (by decide) (by decide), zo 186 (by decide) (by decide) (by decide), ← hI1, pt_out (by decide), xo 186 (by decide) (by decide), tkn_o _ _ (by decide) (by decide)]
          · rw [rF_o _ _ _ _ (by decide) (by decide) (by decide), zo 190 (by decide) (by decide) (by decide), lowX 190 (by decide) (by decide)]
      have wE : ∀ v, v = (if how = 0 then c' else how) → M_X10_look [mR (some 188)] (I1, J1) = some (some (mI v), (rF Z D' G' c', J1)) := by
        intro v hvv
        rw [E_X10_look]
        simp only [rl.kt, if_true, g1, Option.bind_some, asI_I, if_neg i10, rl.fz, f13, if_neg htd, g2, asV_n, rl.f14, rl.fi, z1.2.1, w1]
        rw [hvv]
        by_cases z : how = 0
        · rw [if_pos z, if_pos z, rF_c]
        · rw [if_neg z, if_neg z]
      refine ⟨_, _, _, J1, uE, ?_, fin⟩
      apply wE
      rcases w5 with ⟨a1, a', a2, a3, _⟩ | ⟨a1, a2⟩ | ⟨a1, a2⟩
      · rw [if_pos a1, a2]; exact a3
      · rw [a1, if_neg (by decide)]; exact a2
      · rw [a1, if_neg (by decide)]; exact a2
    · refine absurd hy ?_
      unfold rowO
      rw [if_pos (by rw [u.2.2.1.2.1]; exact Int32.le_refl _)]
      exact (by decide : ¬ (-1 : Int32) = 1)
  · exact Pair.path_no h h30 t1 t2 t3 hy (by decide) (u_look_no h.1.1 I T4 t1.2.1 hy) Rfs.look

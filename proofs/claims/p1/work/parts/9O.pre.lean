/-! What every act begins with, once for all. -/
def WF (I X : MI) : Prop := vw 6 X 1 = vw 6 I 1 ∧ vw 12 X 17 = vw 12 I 17 ∧ vw 1 X 29 = vw 1 I 29 ∧ (∀ x, 31 ≤ x → x < 55 → X x = I x) ∧ X 16 = I 16
def ZF (I I1 Z : MI) : Prop := Z 194 = I 194 ∧ Z 188 20 = -1 ∧ Z 188 21 = -1 ∧ (∀ x, x < 188 → Z x = I1 x) ∧ Z 190 = I 190 ∧ Z 193 = I1 193 ∧ Z 188 11 = I 188 11 ∧ ¬ bz (Z 188 13) = 0
theorem act_pre {I : MI} {J : MJ} {T B0 n : Nat} (h : St I J T B0) (h30 : T + 10001 ≤ 1000000000) (td : Told I J T B0) (t1 : Tap (vw 2 I 7) n) (t2 : I 188 1 = nI n) (t3 : ∀ k, k < n → I 189 k = I 8 k) (hy : (rowO I n).1 = 1) : ∃ vol nn t X J1, I 188 11 = nI vol ∧ Inv (vw 6 I 1) (vw 12 I 17) (vw 1 I 29) (wks I 31) nn vol t T (fun _ => 0) ∧ CntI (vw 12 I 17) ∧ Rel none (vw 6 I 1) (vw 12 I 17) (vw 1 I 29) (wks I 31) (I 194) nn ∧ M_X0_keep [mR (some 67), mR (some 16)] (tkn I n, J) = some (none, (X, J1)) ∧ KL J1 ∧ RefL J1 ∧ WF I X ∧ X 186 = I 186 ∧ ∀ I1, (∀ x, (7 ≤ x ∧ x < 17) ∨ 55 ≤ x ∨ x = 0 → x ≠ 186 → I1 x = X x) → ∃ Z Y1 l', M_X10_isPath [mR (some 188)] (I1, J1) = some (some (mI 1), (Y1, J1)) ∧ (∀ k, k ≠ 1 → k ≠ 2 → k ≠ 3 → k ≠ 15 → Y1 188 k = I 188 k) ∧ Y1 194 = I 194 ∧ M_X10_keeps [mR (some 188)] (Y1, J1) = some (none, (Z, J1)) ∧ l' ≤ 12 ∧ Pth (vw 2 X 158) (Z 192) l' ∧ X 158 1 = nI l' ∧ Z 188 15 = nI l' ∧ ZF I I1 Z ∧ ∀ I2, (∀ x, x ≠ 188 → x ≠ 190 → x ≠ 194 → x ≠ 195 → I2 x = Z x) → (∀ k, k ≠ 22 → I2 188 k = Z 188 k) → S3 I2 → Wd I2 1 17 29 31 (I2 194) vol (T + 10001) → St I2 J1 (T + 10001) B0 := by
  obtain ⟨vol, p, q, nn, t, X, J1, hv, htd, ⟨hp, p20, hq, q20⟩, h6, i, c, r, k1, kf, e1, e2, e3, e4, e5, _, e16⟩ := td.pre (n := n) h h30
  have xo := kf.2.2.2.1
  refine ⟨vol, nn, t, X, J1, hv, i, c, r, k1, kf.1, kf.2.1, ⟨e1, e2, e3, e4, e16⟩, by rw [xo 186 (by decide) (by decide), tkn_o _ _ (by decide) (by decide)], fun I1 x1 => ?_⟩
  have lowX : ∀ x, 188 ≤ x → x < 208 → I1 x = I x := fun x a b => by rw [x1 x (by omega) (by omega), xo x (by omega) (by omega), tkn_o _ _ (by omega) (by omega)]
  obtain ⟨p', l', S', g1, g2, l12, pth⟩ := ref_pre (I1 := I1) kf.2.1 t1 t2 t3 hy h6 (lowX 188 (by decide) (by decide)) (lowX 189 (by decide) (by decide)) hp p20 hq q20
  have z1 := zH_1 I1 n p' l' S' ((p + 1) % 20) (min (q + 1) 20)
  have zo := fun x a b c => zH_o I1 n p' l' S' ((p + 1) % 20) (min (q + 1) 20) (x := x) a b c
  have zk := fun k a b c d e f => zH_k I1 n p' l' S' ((p + 1) % 20) (min (q + 1) 20) (k := k) a b c d e f
  have s8 := h.2.2.2.2.2.2.2.2.1
  have zk' : ∀ k, k ≠ 1 → k ≠ 2 → k ≠ 3 → k ≠ 15 → k ≠ 28 → k ≠ 29 → zH I1 n p' l' S' ((p + 1) % 20) (min (q + 1) 20) 188 k = I 188 k := fun k a b c d e f => by rw [zk k a b c d e f, lowX 188 (by decide) (by decide)]
  refine ⟨_, _, l', g1, fun k a b c d => ?_, ?_, g2, l12, by rw [e5, z1.2.2.1]; exact pth, by have := pth.1; rw [← e5] at this; exact this, z1.2.1, ⟨?_, ?_, ?_, fun x a => zo x (by omega) (by omega) (by omega), ?_, zo 193 (by decide) (by decide) (by decide), ?_, ?_⟩, fun I2 a b s3 w => h.fin h30 hv htd kf x1 (p' := p') (l' := l') (S' := S') a b s3 w⟩
  · rw [pF_k _ _ _ _ b d, bgP_k _ _ a b c, lowX 188 (by decide) (by decide)]
  · rw [pF_o _ _ _ _ (by decide) (by decide), bgP_o _ _ (by decide), lowX 194 (by decide) (by decide)]
  · rw [zo 194 (by decide) (by decide) (by decide), lowX 194 (by decide) (by decide)]
  · rw [zk' 20 (by decide) (by decide) (by decide) (by decide) (by decide) (by decide)]; exact s8.1
  · rw [zk' 21 (by decide) (by decide) (by decide) (by decide) (by decide) (by decide)]; exact s8.2
  · rw [zo 190 (by decide) (by decide) (by decide), lowX 190 (by decide) (by decide)]
  · exact zk' 11 (by decide) (by decide) (by decide) (by decide) (by decide) (by decide)
  · rw [zk' 13 (by decide) (by decide) (by decide) (by decide) (by decide) (by decide)]; exact htd
/-- the same for an act without a path -/
theorem act_pre0 {I : MI} {J : MJ} {T B0 : Nat} (h : St I J T B0) (h30 : T + 10001 ≤ 1000000000) (td : Told I J T B0) : ∃ vol nn t X J1, I 188 11 = nI vol ∧ Inv (vw 6 I 1) (vw 12 I 17) (vw 1 I 29) (wks I 31) nn vol t T (fun _ => 0) ∧ CntI (vw 12 I 17) ∧ Rel none (vw 6 I 1) (vw 12 I 17) (vw 1 I 29) (wks I 31) (I 194) nn ∧ M_X0_keep [mR (some 67), mR (some 16)] (I, J) = some (none, (X, J1)) ∧ KL J1 ∧ RefL J1 ∧ WF I X ∧ (∀ x, x < 208 → x ≠ 67 → X x = I x) ∧ S6 J1 ∧ (∀ a, a < 208 → J1.1 a = J.1 a) ∧ ∀ I1, (∀ x, (7 ≤ x ∧ x < 17) ∨ (55 ≤ x ∧ x ≠ 183 ∧ x ≠ 184) → x ≠ 186 → x ≠ 187 → I1 x = X x) → I1 0 11 = I 0 11 → ∃ Z, M_X10_keeps [mR (some 188)] (I1, J1) = some (none, (Z, J1)) ∧ ZF I I1 Z ∧ (∀ x, x ≠ 188 → x ≠ 199 → Z x = I1 x) ∧ (∀ k, k ≠ 28 → k ≠ 29 → Z 188 k = I 188 k) ∧ ∀ I2 J2, (∀ x, x ≠ 188 → x ≠ 190 → x ≠ 192 → x ≠ 194 → x ≠ 195 → x ≠ 198 → x ≠ 201 → x ≠ 200 → I2 x = Z x) → (∀ k, k ≠ 15 → k ≠ 22 → k ≠ 32 → I2 188 k = Z 188 k) → S3 I2 → S5 I2 → Wd I2 1 17 29 31 (I2 194) vol (T + 10001) → S6 J2 → J2.2 = J1.2 → St I2 J2 (T + 10001) B0 := by
  obtain ⟨vol, ad, p, q, hv, htd, w, hs⟩ := td
  have ww := w
  obtain ⟨nn, t, i, c, r⟩ := w
  obtain ⟨X, J1, k1, kf⟩ := hs.keep h.1.1 h.1.2 ww
  have xo := kf.2.2.2.1
  refine ⟨vol, nn, t, X, J1, hv, i, c, r, k1, kf.1, kf.2.1, ⟨vw_fr (fun x _ _ => xo x (by omega) (by omega)), vw_fr (fun x _ _ => xo x (by omega) (by omega)), vw_fr (fun x _ _ => xo x (by omega) (by omega)), fun x _ _ => xo x (by omega) (by omega), xo 16 (by decide) (by decide)⟩, xo, h.2.2.2.2.2.2.1.fr (kf.2.2.1 0 (by decide)) (kf.2.2.1 188 (by decide)), kf.2.2.1, fun I1 x1 x0 => ?_⟩
  have lowX : ∀ x, 188 ≤ x → x < 208 → I1 x = I x := fun x a b => by rw [x1 x (by omega) (by omega) (by omega), xo x (by omega) (by omega)]
  have hk := w_keeps (J := J1) kf.2.1 I1 (p := p) (q := q) (by rw [lowX 188 (by decide) (by decide)]; exact hs.2.1.2) hs.1.2.1 (by rw [lowX 188 (by decide) (by decide)]; exact hs.2.1.1) hs.1.2.2.2
  have zo := fun x a b => kpR_o I1 ((p + 1) % 20) (min (q + 1) 20) (x := x) a b
  have zk' : ∀ k, k ≠ 28 → k ≠ 29 → kpR I1 ((p + 1) % 20) (min (q + 1) 20) 188 k = I 188 k := fun k a b => by rw [kpR_k _ _ _ a b, lowX 188 (by decide) (by decide)]
  have s8 := h.2.2.2.2.2.2.2.2.1
  have za := kpR_a I1 ((p + 1) % 20) (min (q + 1) 20)
  have zz := kpR_29 I1 ((p + 1) % 20) (min (q + 1) 20)
  refine ⟨_, hk, ⟨?_, ?_, ?_, fun x a => zo x (by omega) (by omega), ?_, zo 193 (by decide) (by decide), zk' 11 (by decide) (by decide), ?_⟩, zo, zk', fun I2 J2 a b s3 s5 w s6 j2 => ?_⟩
  · rw [zo 194 (by decide) (by decide), lowX 194 (by decide) (by decide)]
  · rw [zk' 20 (by decide) (by decide)]; exact s8.1
  · rw [zk' 21 (by decide) (by decide)]; exact s8.2
  · rw [zo 190 (by decide) (by decide), lowX 190 (by decide) (by decide)]
  · rw [zk' 13 (by decide) (by decide)]; exact htd
  · generalize hZ : kpR I1 ((p + 1) % 20) (min (q + 1) 20) = Z at a b zo zk' za zz
    have low : ∀ x, (7 ≤ x ∧ x < 17) ∨ (55 ≤ x ∧ x ≠ 183 ∧ x ≠ 184) → x < 208 → x ≠ 67 → x ≠ 186 → x ≠ 187 → x ≠ 188 → x ≠ 190 → x ≠ 192 → x ≠ 194 → x ≠ 195 → x ≠ 198 → x ≠ 201 → x ≠ 200 → x ≠ 199 → I2 x = I x := fun x h1 h2 h3 h4 h5 h6 h7 h8 h9 h10 h11 h12 h12' h13 => by
      rw [a x h6 h7 h8 h9 h10 h11 h12 h12', zo x h6 h13, x1 x h1 h4 h5, xo x (by omega) h3]
    have fld : ∀ k, k ≠ 15 → k ≠ 22 → k ≠ 32 → k ≠ 28 → k ≠ 29 → I2 188 k = I 188 k := fun k a1 a2 a3 a4 a5 => by rw [b k a1 a2 a3, zk' k a4 a5]
    have e199 : I2 199 = Z 199 := a 199 (by decide) (by decide) (by decide) (by decide) (by decide) (by decide) (by decide) (by decide)
    have i0 : I2 0 11 = I 0 11 := by rw [a 0 (by decide) (by decide) (by decide) (by decide) (by decide) (by decide) (by decide) (by decide), zo 0 (by decide) (by decide)]; exact x0
    have s1 : S1 I2 := h.2.1.fr (low 7 (by omega) (by decide) (by decide) (by decide) (by decide) (by decide) (by decide) (by decide) (by decide) (by decide) (by decide) (by decide) (by decide) (by decide)) (low 8 (by omega) (by decide) (by decide) (by decide) (by decide) (by decide) (by decide) (by decide) (by decide) (by decide) (by decide) (by decide) (by decide) (by decide)) (fld 1 (by decide) (by decide) (by decide) (by decide) (by decide)) (low 189 (by omega) (by decide) (by decide) (by decide) (by decide) (by decide) (by decide) (by decide) (by decide) (by decide) (by decide) (by decide) (by decide) (by decide))
    have base : St I2 J1 (T + 10001) B0 := by
      refine h.act h30 hv htd kf rfl s1 s3 ⟨low 9 (by omega) (by decide) (by decide) (by decide) (by decide) (by decide) (by decide) (by decide) (by decide) (by decide) (by decide) (by decide) (by decide) (by decide), low 69 (by omega) (by decide) (by decide) (by decide) (by decide) (by decide) (by decide) (by decide) (by decide) (by decide) (by decide) (by decide) (by decide) (by decide), fun x a b => low x (by omega) (by omega) (by omega) (by omega) (by omega) (by omega) (by omega) (by omega) (by omega) (by omega) (by omega) (by omega) (by omega) (by omega), low 202 (by omega) (by decide) (by decide) (by decide) (by decide) (by decide) (by decide) (by decide) (by decide) (by decide) (by decide) (by decide) (by decide) (by decide), low 203 (by omega) (by decide) (by decide) (by decide) (by decide) (by decide) (by decide) (by decide) (by decide) (by decide) (by decide) (by decide) (by decide) (by decide), fun k a => fld k (by omega) (by omega) (by omega) (by omega) (by omega)⟩ (h.2.2.2.2.1.fr i0 (low 185 (by omega) (by decide) (by decide) (by decide) (by decide) (by decide) (by decide) (by decide) (by decide) (by decide) (by decide) (by decide) (by decide) (by decide)) (fld 25 (by decide) (by decide) (by decide) (by decide) (by decide)) (low 197 (by omega) (by decide) (by decide) (by decide) (by decide) (by decide) (by decide) (by decide) (by decide) (by decide) (by decide) (by decide) (by decide) (by decide))) s5 w ?_ ?_ ?_ ?_ ?_ ?_
      · rw [a 67 (by decide) (by decide) (by decide) (by decide) (by decide) (by decide) (by decide) (by decide), zo 67 (by decide) (by decide), x1 67 (by omega) (by decide) (by decide)]
      · intro y hy
        rw [a y (by omega) (by omega) (by omega) (by omega) (by omega) (by omega) (by omega) (by omega), zo y (by omega) (by omega), x1 y (by omega) (by omega) (by omega)]
      · rw [b 28 (by decide) (by decide) (by decide)]; exact zz.2
      · rw [b 29 (by decide) (by decide) (by decide)]; exact zz.1
      · intro k hk
        rw [e199, za.1 k hk, lowX 194 (by decide) (by decide)]
      · intro s k _ hs hk
        rw [e199, za.2 s k hs hk, lowX 199 (by decide) (by decide)]
    obtain ⟨b1, b2, b3, b4, b5, b6, b7, b8, b9, b10⟩ := base
    have jr : jR J2 = jR J1 := by show J2.2.1 = J1.2.1; rw [j2]
    have js : jS J2 = jS J1 := by show J2.2.2.1 = J1.2.2.1; rw [j2]
    have jc : jC J2 = jC J1 := by show J2.2.2.2.1 = J1.2.2.2.1; rw [j2]
    have jb : jB J2 = jB J1 := by show J2.2.2.2.2 = J1.2.2.2.2; rw [j2]
    refine ⟨⟨b1.1.gx (fun x _ _ => ⟨by rw [jr], by rw [js]⟩) (by rw [js]), b1.2.gx (fun x _ _ => ⟨by rw [jr], by rw [js]⟩)⟩, b2, b3, b4, b5, b6, s6, b8, b9, ?_⟩
    rcases b10 with td | u
    · exact Or.inl (td.fr (Or.inr ⟨fun a b => by rw [jr], js, jc, jb⟩) (fun _ _ _ _ _ => rfl) rfl (fun _ _ => rfl) (fun _ _ => rfl) (fun _ _ => rfl) rfl (Nat.le_refl _) h30)
    · exact Or.inr (u.fr ⟨fun a b => by rw [jr], js, jc, jb⟩ (fun _ _ _ _ _ => rfl) rfl ⟨rfl, rfl⟩ (fun _ _ => rfl) (fun _ _ => rfl) rfl (Nat.le_refl _) h30)

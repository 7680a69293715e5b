/-! The class and the reference beside each other. -/
def S1 (I : MI) : Prop := ∃ T, Tap (vw 2 I 7) T ∧ I 188 1 = nI T ∧ ∀ k, k < T → I 189 k = I 8 k
/-- the FAULT's two numbers may differ (REPORT.md): nothing is kept of them -/
def S2 (_I : MI) : Prop := True
def S3 (I : MI) : Prop := ∀ k, k < 6 → I 186 k = I 190 k
def S4 (I : MI) : Prop := ∃ o, o ≤ 300 ∧ I 0 11 = nI o ∧ I 188 25 = nI o ∧ ∀ k, k < o → I 185 k = I 197 k
def S5 (I : MI) : Prop := bz (I 0 14) = bz (I 188 32) ∧ (¬ bz (I 0 14) = 0 → ∀ k, k < 4 → I 187 k = I 201 k)
def S6 (J : MJ) : Prop := J.1 0 15 = J.1 188 31 ∧ ∃ v, v < 2 ^ 31 ∧ J.1 0 15 = lN v
def S7 (I : MI) (L : Nat) : Prop := I 69 1 = nI L ∧ L ≤ 12 ∧ I 188 36 = nI L ∧ I 69 2 = I 188 37 ∧ ∀ p, p < L → ∃ l, l ≤ 12 ∧ I 203 p = nI l ∧ Pth (vw 2 I (134 + 2 * p)) (fun k => I 202 (12 * p + k)) l
def S8 (I : MI) : Prop := I 188 20 = -1 ∧ I 188 21 = -1
def Told (I : MI) (J : MJ) (T B0 : Nat) : Prop := ∃ vol ad p q, I 188 11 = nI vol ∧ ¬ bz (I 188 13) = 0 ∧ Wd I 1 17 29 31 (I 194) vol T ∧ His I J ad p q vol T B0
def Emp (I : MI) : Prop := I 1 5 = 0 ∧ I 1 6 = 0 ∧ (∀ e, e < 64 → I 18 e = 0) ∧ (∀ v, v < 3 → I 26 v = -1 ∧ I 27 v = -1) ∧ (I 17 11 = 0 ∧ I 17 12 = 0 ∧ I 17 13 = 0 ∧ I 17 14 = 0) ∧ (∀ k, k < 6 → I 29 k = -1) ∧ ∀ k, k < 4 → bz (I (31 + 6 * k) 5) = 0
def Unt (I : MI) (J : MJ) (T B0 : Nat) : Prop := I 188 11 = 0 ∧ bz (I 188 13) = 0 ∧ Emp I ∧ (I 69 1 = 0 ∧ I 69 2 = -1) ∧ ∃ ad p, His I J ad p 0 1 T B0
def St (I : MI) (J : MJ) (T B0 : Nat) : Prop := (KL J ∧ RefL J) ∧ S1 I ∧ S2 I ∧ S3 I ∧ S4 I ∧ S5 I ∧ S6 J ∧ (∃ L, S7 I L) ∧ S8 I ∧ (Told I J T B0 ∨ Unt I J T B0)
theorem S1.fr {I I' : MI} (h : S1 I) (a : I' 7 = I 7) (b : I' 8 = I 8) (c : I' 188 1 = I 188 1) (d : I' 189 = I 189) : S1 I' := by
  obtain ⟨T, t1, t2, t3⟩ := h
  refine ⟨T, ?_, by rw [c]; exact t2, by rw [b, d]; exact t3⟩
  rw [vw_fr (I := I) (fun x p q => by
    rcases (show x = 7 ∨ x = 8 by omega) with z | z
    · rw [z, a]
    · rw [z, b])]
  exact t1
theorem S1.emp {I : MI} (a : I 7 1 = 0) (b : I 188 1 = 0) : S1 I := ⟨0, ⟨by omega, a, fun k hk => by omega⟩, b, fun k hk => by omega⟩
theorem S2.fr {I I' : MI} (_h : S2 I) (_a : I' 9 = I 9) (_c : I' 188 6 = I 188 6) (_d : I' 188 7 = I 188 7) : S2 I' := trivial
theorem S3.fr {I I' : MI} (h : S3 I) (a : I' 186 = I 186) (b : I' 190 = I 190) : S3 I' := by
  unfold S3
  rw [a, b]
  exact h
/-- both have refused once more -/
theorem S3.ref {I I' : MI} (h : S3 I) {k : Nat} (a : ∀ j, I' 186 j = if j = k then I 186 k + 1 else I 186 j) (b : ∀ j, I' 190 j = if j = k then I 190 k + 1 else I 190 j) (hk : k < 6) : S3 I' := by
  intro j hj
  rw [a, b, h j hj, h k hk]
theorem S4.fr {I I' : MI} (h : S4 I) (a : I' 0 11 = I 0 11) (b : I' 185 = I 185) (c : I' 188 25 = I 188 25) (d : I' 197 = I 197) : S4 I' := by
  unfold S4
  rw [a, b, c, d]
  exact h
theorem S5.fr {I I' : MI} (h : S5 I) (a : I' 0 14 = I 0 14) (b : I' 187 = I 187) (c : I' 188 32 = I 188 32) (d : I' 201 = I 201) : S5 I' := by
  unfold S5
  rw [a, b, c, d]
  exact h
theorem S6.fr {J J' : MJ} (h : S6 J) (a : J'.1 0 = J.1 0) (b : J'.1 188 = J.1 188) : S6 J' := by
  unfold S6
  rw [a, b]
  exact h
theorem S7.fr {I I' : MI} {L : Nat} (h : S7 I L) (a : I' 69 1 = I 69 1) (a2 : I' 69 2 = I 69 2) (b : ∀ x, 134 ≤ x → x < 158 → I' x = I x) (c : I' 188 36 = I 188 36) (d : I' 188 37 = I 188 37) (e : I' 202 = I 202) (f : I' 203 = I 203) : S7 I' L := by
  obtain ⟨h1, h2, h3, h4, h5⟩ := h
  refine ⟨by rw [a]; exact h1, h2, by rw [c]; exact h3, by rw [a2, d]; exact h4, fun p hp => ?_⟩
  rw [f, e, vw_fr (I := I) (fun x p q => b x (by omega) (by omega))]
  exact h5 p hp
theorem S8.fr {I I' : MI} (h : S8 I) (a : I' 188 20 = I 188 20) (b : I' 188 21 = I 188 21) : S8 I' := by
  unfold S8
  rw [a, b]
  exact h
theorem Emp.fr {I I' : MI} (h : Emp I) (a : ∀ x, x < 55 → x ≠ 7 → I' x = I x) : Emp I' := by
  obtain ⟨h1, h2, h3, h4, h5, h6, h7⟩ := h
  refine ⟨by rw [a 1 (by decide) (by decide)]; exact h1, by rw [a 1 (by decide) (by decide)]; exact h2, by rw [a 18 (by decide) (by decide)]; exact h3, by rw [a 26 (by decide) (by decide), a 27 (by decide) (by decide)]; exact h4, by rw [a 17 (by decide) (by decide)]; exact h5, by rw [a 29 (by decide) (by decide)]; exact h6, fun k hk => by rw [a (31 + 6 * k) (by omega) (by omega)]; exact h7 k hk⟩
theorem Told.fr {I I' : MI} {J J' : MJ} {T T' B0 : Nat} (h : Told I J T B0) (hJ : J' = J ∨ (∀ a b, jR J' a b = jR J a b) ∧ jS J' = jS J ∧ jC J' = jC J ∧ jB J' = jB J) (a : ∀ x, x < 55 → x ≠ 7 → x ≠ 8 → x ≠ 0 → I' x = I x) (a67 : I' 67 = I 67) (b : ∀ x, 208 ≤ x → I' x = I x) (c : ∀ k, k = 11 ∨ k = 13 ∨ k = 28 ∨ k = 29 → I' 188 k = I 188 k) (d : ∀ k, k < 1853 → I' 194 k = I 194 k) (e : I' 199 = I 199) (hT : T ≤ T') (h30 : T' ≤ 1000000000) : Told I' J' T' B0 := by
  obtain ⟨vol, ad, p, q, h1, h2, h3, h4⟩ := h
  have h5 := h4.fr (I' := I') a67 (c 28 (by omega)) (c 29 (by omega)) e b hT h30
  refine ⟨vol, ad, p, q, by rw [c 11 (by omega)]; exact h1, by rw [c 13 (by omega)]; exact h2, ((h3.fr (fun x _ _ => a x (by omega) (by omega) (by omega) (by omega)) (fun x _ _ => a x (by omega) (by omega) (by omega) (by omega)) (a 29 (by omega) (by omega) (by omega) (by omega)) (fun x _ _ => a x (by omega) (by omega) (by omega) (by omega)) d).T hT h30), ?_⟩
  rcases hJ with z | ⟨z1, z2, z3, z4⟩
  · rw [z]; exact h5
  · have zr : jR J' = jR J := by funext a b; exact z1 a b
    refine ⟨h5.1, h5.2.1, ⟨fun s hs => ?_, h5.2.2.1.2⟩, ?_, h5.2.2.2.2⟩
    · rw [zr, z3]
      rcases h5.2.2.1.1 s hs with y | ⟨a, y1, y2, y3, y4, y5⟩
      · exact Or.inl y
      · exact Or.inr ⟨a, y1, y2, y3.gx (fun x _ _ => ⟨by rw [zr], by rw [z2]⟩), y4, y5⟩
    · have := h5.2.2.2.1
      unfold Rm at this ⊢
      rw [z3, z4]
      exact this
theorem Unt.fr {I I' : MI} {J J' : MJ} {T T' B0 : Nat} (h : Unt I J T B0) (hJ : (∀ a b, jR J' a b = jR J a b) ∧ jS J' = jS J ∧ jC J' = jC J ∧ jB J' = jB J) (a : ∀ x, x < 55 → x ≠ 7 → x ≠ 8 → x ≠ 0 → I' x = I x) (a67 : I' 67 = I 67) (a69 : I' 69 1 = I 69 1 ∧ I' 69 2 = I 69 2) (b : ∀ x, 208 ≤ x → I' x = I x) (c : ∀ k, k = 11 ∨ k = 13 ∨ k = 28 ∨ k = 29 → I' 188 k = I 188 k) (e : I' 199 = I 199) (hT : T ≤ T') (h30 : T' ≤ 1000000000) : Unt I' J' T' B0 := by
  obtain ⟨h1, h2, h3, h4, ad, p, h5⟩ := h
  have h6 := h5.fr (I' := I') a67 (c 28 (by omega)) (c 29 (by omega)) e b hT h30
  refine ⟨by rw [c 11 (by omega)]; exact h1, by rw [c 13 (by omega)]; exact h2, ?_, by rw [a69.1, a69.2]; exact h4, ad, p, ?_⟩
  · obtain ⟨g1, g2, g3, g4, g5, g6, g7⟩ := h3
    refine ⟨by rw [a 1 (by decide) (by decide) (by decide) (by decide)]; exact g1, by rw [a 1 (by decide) (by decide) (by decide) (by decide)]; exact g2, by rw [a 18 (by decide) (by decide) (by decide) (by decide)]; exact g3, by rw [a 26 (by decide) (by decide) (by decide) (by decide), a 27 (by decide) (by decide) (by decide) (by decide)]; exact g4, by rw [a 17 (by decide) (by decide) (by decide) (by decide)]; exact g5, by rw [a 29 (by decide) (by decide) (by decide) (by decide)]; exact g6, fun k hk => by rw [a (31 + 6 * k) (by omega) (by omega) (by omega) (by omega)]; exact g7 k hk⟩
  · obtain ⟨z1, z2, z3, z4⟩ := hJ
    have zr : jR J' = jR J := by funext a b; exact z1 a b
    refine ⟨h6.1, h6.2.1, ⟨fun s hs => ?_, h6.2.2.1.2⟩, ?_, h6.2.2.2.2⟩
    · rw [zr, z3]
      rcases h6.2.2.1.1 s hs with y | ⟨a, y1, y2, y3, y4, y5⟩
      · exact Or.inl y
      · exact Or.inr ⟨a, y1, y2, y3.gx (fun x _ _ => ⟨by rw [zr], by rw [z2]⟩), y4, y5⟩
    · have := h6.2.2.2.1
      unfold Rm at this ⊢
      rw [z3, z4]
      exact this
/-- what a small change leaves: cells of the class below 188 in A, fields of the reference in F, rows of the reference in R -/
theorem St.sm {I I' : MI} {J : MJ} {T T' B0 : Nat} (h : St I J T B0) (s1 : S1 I') (s2 : S2 I') (s3 : S3 I') (s4 : S4 I') (s5 : S5 I') (s7 : ∃ L, S7 I' L) (s8 : S8 I') (a : ∀ x, x < 55 → x ≠ 7 → x ≠ 8 → x ≠ 0 → x ≠ 9 → (x < 10 ∨ 16 ≤ x) → I' x = I x) (a67 : I' 67 = I 67) (a69 : Unt I J T B0 → I' 69 1 = I 69 1 ∧ I' 69 2 = I 69 2) (b : ∀ x, 208 ≤ x → I' x = I x) (c : ∀ k, k = 11 ∨ k = 13 ∨ k = 28 ∨ k = 29 → I' 188 k = I 188 k) (d : ∀ k, k < 1853 → I' 194 k = I 194 k) (e : I' 199 = I 199) (hT : T ≤ T') (h30 : T' ≤ 1000000000) : St I' J T' B0 := by
  refine ⟨h.1, s1, s2, s3, s4, s5, h.2.2.2.2.2.2.1, s7, s8, ?_⟩
  rcases h.2.2.2.2.2.2.2.2.2 with t | u
  · obtain ⟨vol, ad, p, q, h1, h2, h3, h4⟩ := t
    refine Or.inl ⟨vol, ad, p, q, by rw [c 11 (by omega)]; exact h1, by rw [c 13 (by omega)]; exact h2, ((h3.fr (fun x _ _ => a x (by omega) (by omega) (by omega) (by omega) (by omega) (by omega)) (fun x _ _ => a x (by omega) (by omega) (by omega) (by omega) (by omega) (by omega)) (a 29 (by omega) (by omega) (by omega) (by omega) (by omega) (by omega)) (fun x _ _ => a x (by omega) (by omega) (by omega) (by omega) (by omega) (by omega)) d).T hT h30), h4.fr a67 (c 28 (by omega)) (c 29 (by omega)) e b hT h30⟩
  · have uu := u
    obtain ⟨h1, h2, h3, h4, ad, p, h5⟩ := u
    refine Or.inr ⟨by rw [c 11 (by omega)]; exact h1, by rw [c 13 (by omega)]; exact h2, ?_, by rw [(a69 uu).1, (a69 uu).2]; exact h4, ad, p, h5.fr a67 (c 28 (by omega)) (c 29 (by omega)) e b hT h30⟩
    obtain ⟨g1, g2, g3, g4, g5, g6, g7⟩ := h3
    have a' : ∀ x, x < 55 → x ≠ 0 → (x < 7 ∨ 16 ≤ x) → I' x = I x := fun x p q r => a x p (by omega) (by omega) q (by omega) (by omega)
    refine ⟨by rw [a' 1 (by decide) (by decide) (by decide)]; exact g1, by rw [a' 1 (by decide) (by decide) (by decide)]; exact g2, by rw [a' 18 (by decide) (by decide) (by decide)]; exact g3, by rw [a' 26 (by decide) (by decide) (by decide), a' 27 (by decide) (by decide) (by decide)]; exact g4, by rw [a' 17 (by decide) (by decide) (by decide)]; exact g5, by rw [a' 29 (by decide) (by decide) (by decide)]; exact g6, fun k hk => by rw [a' (31 + 6 * k) (by omega) (by omega) (by omega)]; exact g7 k hk⟩

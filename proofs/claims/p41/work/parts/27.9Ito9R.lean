section
/-! The class and the reference beside each other. -/
def S1 (I : MI) : Prop := ∃ T, Tap (vw 2 I 7) T ∧ I 188 1 = nI T ∧ ∀ k, k < T → I 189 k = I 8 k
/-- the FAULT's two numbers may differ (REPORT.md): nothing is kept of them -/
def S2 (_I : MI) : Prop := True
def S3 (I : MI) : Prop := ∀ k, k < 6 → I 186 k = I 190 k
def S4 (I : MI) : Prop := ∃ o, o ≤ 300 ∧ I 0 11 = nI o ∧ I 188 25 = nI o ∧ ∀ k, k < o → I 185 k = I 197 k
def S5 (I : MI) : Prop := bz (I 0 14) = bz (I 188 32) ∧ (¬ bz (I 0 14) = 0 → ∀ k, k < 4 → I 187 k = I 201 k)
def S6 (J : MJ) : Prop := J.1 0 15 = J.1 188 31 ∧ ∃ v, v < 2 ^ 31 ∧ J.1 0 15 = lN v
def S7 (I : MI) (L : Nat) : Prop := I 69 1 = nI L ∧ L ≤ 12 ∧ I 188 36 = nI L ∧ I 69 2 = I 188 37 ∧ ∀ p, p < L → ∃ l, l ≤ 12 ∧ I 203 p = nI l ∧ Pth (vw 2 I (134 + 2 * p)) (fun k => I 202 (12 * p + k)) l
def S8 (I : MI) : Prop := I 188 20 = -1 ∧ I 188 21 = -1
def Told (I : MI) (J : MJ) (T B0 : Nat) : Prop := ∃ vol ad p q, I 188 11 = nI vol ∧ ¬ bz (I 188 13) = 0 ∧ Wd I 1 17 29 31 (I 194) vol T ∧ His I J ad p q vol T B0
def Emp (I : MI) : Prop := I 1 5 = 0 ∧ I 1 6 = 0 ∧ (∀ e, e < 64 → I 18 e = 0) ∧ (∀ v, v < 3 → I 26 v = -1 ∧ I 27 v = -1) ∧ (I 17 11 = 0 ∧ I 17 12 = 0 ∧ I 17 13 = 0 ∧ I 17 14 = 0) ∧ (∀ k, k < 6 → I 29 k = -1) ∧ ∀ k, k < 4 → bz (I (31 + 6 * k) 5) = 0
def Unt (I : MI) (J : MJ) (T B0 : Nat) : Prop := I 188 11 = 0 ∧ bz (I 188 13) = 0 ∧ Emp I ∧ (I 69 1 = 0 ∧ I 69 2 = -1) ∧ ∃ ad p, His I J ad p 0 1 T B0
def St (I : MI) (J : MJ) (T B0 : Nat) : Prop := (KL J ∧ RefL J) ∧ S1 I ∧ S2 I ∧ S3 I ∧ S4 I ∧ S5 I ∧ S6 J ∧ (∃ L, S7 I L) ∧ S8 I ∧ (Told I J T B0 ∨ Unt I J T B0)
theorem S1.fr {I I' : MI} (h : S1 I) (a : I' 7 = I 7) (b : I' 8 = I 8) (c : I' 188 1 = I 188 1) (d : I' 189 = I 189) : S1 I' := by
  obtain ⟨T, t1, t2, t3⟩ := h
  refine ⟨T, ?_, by rw [c]; exact t2, by rw [b, d]; exact t3⟩
  rw [vw_fr (I := I) (fun x p q => by
    rcases (show x = 7 ∨ x = 8 by omega) with z | z
    · rw [z, a]
    · rw [z, b])]
  exact t1
theorem S1.emp {I : MI} (a : I 7 1 = 0) (b : I 188 1 = 0) : S1 I := ⟨0, ⟨by omega, a, fun k hk => by omega⟩, b, fun k hk => by omega⟩
theorem S2.fr {I I' : MI} (_h : S2 I) (_a : I' 9 = I 9) (_c : I' 188 6 = I 188 6) (_d : I' 188 7 = I 188 7) : S2 I' := trivial
theorem S3.fr {I I' : MI} (h : S3 I) (a : I' 186 = I 186) (b : I' 190 = I 190) : S3 I' := by
  unfold S3
  rw [a, b]
  exact h
/-- both have refused once more -/
theorem S3.ref {I I' : MI} (h : S3 I) {k : Nat} (a : ∀ j, I' 186 j = if j = k then I 186 k + 1 else I 186 j) (b : ∀ j, I' 190 j = if j = k then I 190 k + 1 else I 190 j) (hk : k < 6) : S3 I' := by
  intro j hj
  rw [a, b, h j hj, h k hk]
theorem S4.fr {I I' : MI} (h : S4 I) (a : I' 0 11 = I 0 11) (b : I' 185 = I 185) (c : I' 188 25 = I 188 25) (d : I' 197 = I 197) : S4 I' := by
  unfold S4
  rw [a, b, c, d]
  exact h
theorem S5.fr {I I' : MI} (h : S5 I) (a : I' 0 14 = I 0 14) (b : I' 187 = I 187) (c : I' 188 32 = I 188 32) (d : I' 201 = I 201) : S5 I' := by
  unfold S5
  rw [a, b, c, d]
  exact h
theorem S6.fr {J J' : MJ} (h : S6 J) (a : J'.1 0 = J.1 0) (b : J'.1 188 = J.1 188) : S6 J' := by
  unfold S6
  rw [a, b]
  exact h
theorem S7.fr {I I' : MI} {L : Nat} (h : S7 I L) (a : I' 69 1 = I 69 1) (a2 : I' 69 2 = I 69 2) (b : ∀ x, 134 ≤ x → x < 158 → I' x = I x) (c : I' 188 36 = I 188 36) (d : I' 188 37 = I 188 37) (e : I' 202 = I 202) (f : I' 203 = I 203) : S7 I' L := by
  obtain ⟨h1, h2, h3, h4, h5⟩ := h
  refine ⟨by rw [a]; exact h1, h2, by rw [c]; exact h3, by rw [a2, d]; exact h4, fun p hp => ?_⟩
  rw [f, e, vw_fr (I := I) (fun x p q => b x (by omega) (by omega))]
  exact h5 p hp
theorem S8.fr {I I' : MI} (h : S8 I) (a : I' 188 20 = I 188 20) (b : I' 188 21 = I 188 21) : S8 I' := by
  unfold S8
  rw [a, b]
  exact h
theorem Emp.fr {I I' : MI} (h : Emp I) (a : ∀ x, x < 55 → x ≠ 7 → I' x = I x) : Emp I' := by
  obtain ⟨h1, h2, h3, h4, h5, h6, h7⟩ := h
  refine ⟨by rw [a 1 (by decide) (by decide)]; exact h1, by rw [a 1 (by decide) (by decide)]; exact h2, by rw [a 18 (by decide) (by decide)]; exact h3, by rw [a 26 (by decide) (by decide), a 27 (by decide) (by decide)]; exact h4, by rw [a 17 (by decide) (by decide)]; exact h5, by rw [a 29 (by decide) (by decide)]; exact h6, fun k hk => by rw [a (31 + 6 * k) (by omega) (by omega)]; exact h7 k hk⟩
theorem Told.fr {I I' : MI} {J J' : MJ} {T T' B0 : Nat} (h : Told I J T B0) (hJ : J' = J ∨ (∀ a b, jR J' a b = jR J a b) ∧ jS J' = jS J ∧ jC J' = jC J ∧ jB J' = jB J) (a : ∀ x, x < 55 → x ≠ 7 → x ≠ 8 → x ≠ 0 → I' x = I x) (a67 : I' 67 = I 67) (b : ∀ x, 208 ≤ x → I' x = I x) (c : ∀ k, k = 11 ∨ k = 13 ∨ k = 28 ∨ k = 29 → I' 188 k = I 188 k) (d : ∀ k, k < 1853 → I' 194 k = I 194 k) (e : I' 199 = I 199) (hT : T ≤ T') (h30 : T' ≤ 1000000000) : Told I' J' T' B0 := by
  obtain ⟨vol, ad, p, q, h1, h2, h3, h4⟩ := h
  have h5 := h4.fr (I' := I') a67 (c 28 (by omega)) (c 29 (by omega)) e b hT h30
  refine ⟨vol, ad, p, q, by rw [c 11 (by omega)]; exact h1, by rw [c 13 (by omega)]; exact h2, ((h3.fr (fun x _ _ => a x (by omega) (by omega) (by omega) (by omega)) (fun x _ _ => a x (by omega) (by omega) (by omega) (by omega)) (a 29 (by omega) (by omega) (by omega) (by omega)) (fun x _ _ => a x (by omega) (by omega) (by omega) (by omega)) d).T hT h30), ?_⟩
  rcases hJ with z | ⟨z1, z2, z3, z4⟩
  · rw [z]; exact h5
  · have zr : jR J' = jR J := by funext a b; exact z1 a b
    refine ⟨h5.1, h5.2.1, ⟨fun s hs => ?_, h5.2.2.1.2⟩, ?_, h5.2.2.2.2⟩
    · rw [zr, z3]
      rcases h5.2.2.1.1 s hs with y | ⟨a, y1, y2, y3, y4, y5⟩
      · exact Or.inl y
      · exact Or.inr ⟨a, y1, y2, y3.gx (fun x _ _ => ⟨by rw [zr], by rw [z2]⟩), y4, y5⟩
    · have := h5.2.2.2.1
      unfold Rm at this ⊢
      rw [z3, z4]
      exact this
theorem Unt.fr {I I' : MI} {J J' : MJ} {T T' B0 : Nat} (h : Unt I J T B0) (hJ : (∀ a b, jR J' a b = jR J a b) ∧ jS J' = jS J ∧ jC J' = jC J ∧ jB J' = jB J) (a : ∀ x, x < 55 → x ≠ 7 → x ≠ 8 → x ≠ 0 → I' x = I x) (a67 : I' 67 = I 67) (a69 : I' 69 1 = I 69 1 ∧ I' 69 2 = I 69 2) (b : ∀ x, 208 ≤ x → I' x = I x) (c : ∀ k, k = 11 ∨ k = 13 ∨ k = 28 ∨ k = 29 → I' 188 k = I 188 k) (e : I' 199 = I 199) (hT : T ≤ T') (h30 : T' ≤ 1000000000) : Unt I' J' T' B0 := by
  obtain ⟨h1, h2, h3, h4, ad, p, h5⟩ := h
  have h6 := h5.fr (I' := I') a67 (c 28 (by omega)) (c 29 (by omega)) e b hT h30
  refine ⟨by rw [c 11 (by omega)]; exact h1, by rw [c 13 (by omega)]; exact h2, ?_, by rw [a69.1, a69.2]; exact h4, ad, p, ?_⟩
  · obtain ⟨g1, g2, g3, g4, g5, g6, g7⟩ := h3
    refine ⟨by rw [a 1 (by decide) (by decide) (by decide) (by decide)]; exact g1, by rw [a 1 (by decide) (by decide) (by decide) (by decide)]; exact g2, by rw [a 18 (by decide) (by decide) (by decide) (by decide)]; exact g3, by rw [a 26 (by decide) (by decide) (by decide) (by decide), a 27 (by decide) (by decide) (by decide) (by decide)]; exact g4, by rw [a 17 (by decide) (by decide) (by decide) (by decide)]; exact g5, by rw [a 29 (by decide) (by decide) (by decide) (by decide)]; exact g6, fun k hk => by rw [a (31 + 6 * k) (by omega) (by omega) (by omega) (by omega)]; exact g7 k hk⟩
  · obtain ⟨z1, z2, z3, z4⟩ := hJ
    have zr : jR J' = jR J := by funext a b; exact z1 a b
    refine ⟨h6.1, h6.2.1, ⟨fun s hs => ?_, h6.2.2.1.2⟩, ?_, h6.2.2.2.2⟩
    · rw [zr, z3]
      rcases h6.2.2.1.1 s hs with y | ⟨a, y1, y2, y3, y4, y5⟩
      · exact Or.inl y
      · exact Or.inr ⟨a, y1, y2, y3.gx (fun x _ _ => ⟨by rw [zr], by rw [z2]⟩), y4, y5⟩
    · have := h6.2.2.2.1
      unfold Rm at this ⊢
      rw [z3, z4]
      exact this
/-- what a small change leaves: cells of the class below 188 in A, fields of the reference in F, rows of the reference in R -/
theorem St.sm {I I' : MI} {J : MJ} {T T' B0 : Nat} (h : St I J T B0) (s1 : S1 I') (s2 : S2 I') (s3 : S3 I') (s4 : S4 I') (s5 : S5 I') (s7 : ∃ L, S7 I' L) (s8 : S8 I') (a : ∀ x, x < 55 → x ≠ 7 → x ≠ 8 → x ≠ 0 → x ≠ 9 → (x < 10 ∨ 16 ≤ x) → I' x = I x) (a67 : I' 67 = I 67) (a69 : Unt I J T B0 → I' 69 1 = I 69 1 ∧ I' 69 2 = I 69 2) (b : ∀ x, 208 ≤ x → I' x = I x) (c : ∀ k, k = 11 ∨ k = 13 ∨ k = 28 ∨ k = 29 → I' 188 k = I 188 k) (d : ∀ k, k < 1853 → I' 194 k = I 194 k) (e : I' 199 = I 199) (hT : T ≤ T') (h30 : T' ≤ 1000000000) : St I' J T' B0 := by
  refine ⟨h.1, s1, s2, s3, s4, s5, h.2.2.2.2.2.2.1, s7, s8, ?_⟩
  rcases h.2.2.2.2.2.2.2.2.2 with t | u
  · obtain ⟨vol, ad, p, q, h1, h2, h3, h4⟩ := t
    refine Or.inl ⟨vol, ad, p, q, by rw [c 11 (by omega)]; exact h1, by rw [c 13 (by omega)]; exact h2, ((h3.fr (fun x _ _ => a x (by omega) (by omega) (by omega) (by omega) (by omega) (by omega)) (fun x _ _ => a x (by omega) (by omega) (by omega) (by omega) (by omega) (by omega)) (a 29 (by omega) (by omega) (by omega) (by omega) (by omega) (by omega)) (fun x _ _ => a x (by omega) (by omega) (by omega) (by omega) (by omega) (by omega)) d).T hT h30), h4.fr a67 (c 28 (by omega)) (c 29 (by omega)) e b hT h30⟩
  · have uu := u
    obtain ⟨h1, h2, h3, h4, ad, p, h5⟩ := u
    refine Or.inr ⟨by rw [c 11 (by omega)]; exact h1, by rw [c 13 (by omega)]; exact h2, ?_, by rw [(a69 uu).1, (a69 uu).2]; exact h4, ad, p, h5.fr a67 (c 28 (by omega)) (c 29 (by omega)) e b hT h30⟩
    obtain ⟨g1, g2, g3, g4, g5, g6, g7⟩ := h3
    have a' : ∀ x, x < 55 → x ≠ 0 → (x < 7 ∨ 16 ≤ x) → I' x = I x := fun x p q r => a x p (by omega) (by omega) q (by omega) (by omega)
    refine ⟨by rw [a' 1 (by decide) (by decide) (by decide)]; exact g1, by rw [a' 1 (by decide) (by decide) (by decide)]; exact g2, by rw [a' 18 (by decide) (by decide) (by decide)]; exact g3, by rw [a' 26 (by decide) (by decide) (by decide), a' 27 (by decide) (by decide) (by decide)]; exact g4, by rw [a' 17 (by decide) (by decide) (by decide)]; exact g5, by rw [a' 29 (by decide) (by decide) (by decide)]; exact g6, fun k hk => by rw [a' (31 + 6 * k) (by omega) (by omega) (by omega)]; exact g7 k hk⟩
end
section
/-! Plain calls, on both sides. -/
def Pair (I : MI) (J : MJ) (T B0 : Nat) (f g : MH → Option MO) : Prop := ∃ v s1 I2 J2, f (I, J) = some (some (mI v), s1) ∧ g s1 = some (some (mI v), (I2, J2)) ∧ St I2 J2 (T + 10001) B0
theorem St.mono {I : MI} {J : MJ} {T T' B0 : Nat} (h : St I J T B0) (hT : T ≤ T') (h30 : T' ≤ 1000000000) : St I J T' B0 :=
  h.sm h.2.1 h.2.2.1 h.2.2.2.1 h.2.2.2.2.1 h.2.2.2.2.2.1 h.2.2.2.2.2.2.2.1 h.2.2.2.2.2.2.2.2.1 (fun _ _ _ _ _ _ _ => rfl) rfl (fun _ => ⟨rfl, rfl⟩) (fun _ _ => rfl) (fun _ _ => rfl) (fun _ _ => rfl) rfl hT h30
/-- a question that changes nothing -/
theorem Pair.ask {I : MI} {J : MJ} {T B0 : Nat} (h : St I J T B0) (h30 : T + 10001 ≤ 1000000000) {f g : MH → Option MO} {v w : Int32} (a : f (I, J) = some (some (mI v), (I, J))) (b : g (I, J) = some (some (mI w), (I, J))) (e : v = w) : Pair I J T B0 f g := by
  subst e
  exact ⟨v, _, I, J, a, b, h.mono (by omega) h30⟩
/-- both go through; the answers may differ -/
def Pairw (I : MI) (J : MJ) (T B0 : Nat) (f g : MH → Option MO) : Prop := ∃ v w s1 I2 J2, f (I, J) = some (some (mI v), s1) ∧ g s1 = some (some (mI w), (I2, J2)) ∧ St I2 J2 (T + 10001) B0
theorem Pair.w {I : MI} {J : MJ} {T B0 : Nat} {f g : MH → Option MO} (h : Pair I J T B0 f g) : Pairw I J T B0 f g := by
  obtain ⟨v, s1, I2, J2, a, b, c⟩ := h
  exact ⟨v, v, s1, I2, J2, a, b, c⟩
theorem P_fault {I : MI} {J : MJ} {T B0 : Nat} (h : St I J T B0) (h30 : T + 10001 ≤ 1000000000) (x : Int32) (e1 : I 9 1 = I 188 6) (e2 : I 9 2 = I 188 7) : Pair I J T B0 (M_X9_fault [mR (some 0), mI x]) (M_X10_fault [mR (some 188), mI x]) := by
  refine Pair.ask h h30 (u_fault h.1.1 I x) (w_fault h.1.2 I x) ?_
  rw [e1, e2]
theorem P_faultw {I : MI} {J : MJ} {T B0 : Nat} (h : St I J T B0) (h30 : T + 10001 ≤ 1000000000) (x : Int32) : Pairw I J T B0 (M_X9_fault [mR (some 0), mI x]) (M_X10_fault [mR (some 188), mI x]) :=
  ⟨_, _, _, I, J, u_fault h.1.1 I x, w_fault h.1.2 I x, h.mono (by omega) h30⟩
theorem lt6 {x : Int32} (h0 : ¬ x < 0) (h : ¬ (6 : Int32) ≤ x) : ix x < 6 := by
  rcases Nat.lt_or_ge (ix x) 6 with z | z
  · exact z
  · exact absurd (by rw [nI_ix h0]; exact nI_le (a := 6) z (ix_lt x)) h
theorem five {x : Int32} : (5 : Int32) < x ↔ (6 : Int32) ≤ x := by
  rw [Int32.lt_iff_toInt_lt, Int32.le_iff_toInt_le]
  have a : (5 : Int32).toInt = 5 := rfl
  have b : (6 : Int32).toInt = 6 := rfl
  omega
theorem three {x : Int32} : (3 : Int32) < x ↔ (4 : Int32) ≤ x := by
  rw [Int32.lt_iff_toInt_lt, Int32.le_iff_toInt_le]
  have a : (3 : Int32).toInt = 3 := rfl
  have b : (4 : Int32).toInt = 4 := rfl
  omega
theorem lt4 {x : Int32} (h0 : ¬ x < 0) (h : ¬ (4 : Int32) ≤ x) : ix x < 4 := by
  rcases Nat.lt_or_ge (ix x) 4 with z | z
  · exact z
  · exact absurd (by rw [nI_ix h0]; exact nI_le (a := 4) z (ix_lt x)) h
theorem P_status {I : MI} {J : MJ} {T B0 : Nat} (h : St I J T B0) (h30 : T + 10001 ≤ 1000000000) (x : Int32) : Pair I J T B0 (M_X9_status [mR (some 0), mI x]) (M_X10_status [mR (some 188), mI x]) := by
  refine Pair.ask h h30 (u_status h.1.1 I x) (w_status h.1.2 I x) ?_
  by_cases a : x < 0
  · rw [if_pos a, if_pos a]
  · rw [if_neg a, if_neg a]
    by_cases b : (6 : Int32) ≤ x
    · rw [if_pos b, if_pos (five.mpr b)]
    · rw [if_neg b, if_neg (fun z => b (five.mp z))]
      exact h.2.2.2.1 _ (lt6 a b)
theorem P_result {I : MI} {J : MJ} {T B0 : Nat} (h : St I J T B0) (h30 : T + 10001 ≤ 1000000000) (x : Int32) : Pair I J T B0 (M_X9_result [mR (some 0), mI x]) (M_X10_result [mR (some 188), mI x]) := by
  refine Pair.ask h h30 (u_result h.1.1 I x) (w_result h.1.2 I x) ?_
  have s5 := h.2.2.2.2.2.1
  rw [← s5.1]
  by_cases z : bz (I 0 14) = 0
  · rw [if_pos z, if_pos z]
  · rw [if_neg z, if_neg z]
    by_cases a : x < 0
    · rw [if_pos a, if_pos a]
    · rw [if_neg a, if_neg a]
      by_cases b : (4 : Int32) ≤ x
      · rw [if_pos b, if_pos (three.mpr b)]
      · rw [if_neg b, if_neg (fun z => b (three.mp z))]
        exact s5.2 z _ (lt4 a b)
theorem w_octet {J : MJ} (h : RefL J) (I : MI) {o : Nat} (ho : I 188 25 = nI o) (o300 : o ≤ 300) (x : Int32) : M_X10_octet [mR (some 188), mI x] (I, J) = some (some (mI (if x < 0 then -1 else if nI o ≤ x then -1 else I 197 (ix x))), (I, J)) := by
  rw [E_X10_octet]
  simp only [h.fi, ho, Option.bind_some, fR_ok 24 h.k, h.r24]
  by_cases a : x < 0
  · simp [a]
  · simp only [if_neg a]
    by_cases b : nI o ≤ x
    · simp [b]
    · rw [if_neg b, if_neg b]
      have : ix x < o := by
        rcases Nat.lt_or_ge (ix x) o with z | z
        · exact z
        · exact absurd (by rw [nI_ix a]; exact nI_le z (ix_lt x)) b
      rw [ld_ok _ h.s24 (by rw [nI_ix a]; exact inb_nI (by omega) (by decide))]
      rfl
theorem P_octet {I : MI} {J : MJ} {T B0 : Nat} (h : St I J T B0) (h30 : T + 10001 ≤ 1000000000) (x : Int32) : Pair I J T B0 (M_X9_octet [mR (some 0), mI x]) (M_X10_octet [mR (some 188), mI x]) := by
  obtain ⟨o, o1, o2, o3, o4⟩ := h.2.2.2.2.1
  refine Pair.ask h h30 (u_octet h.1.1 I x) (w_octet h.1.2 I o3 o1 x) ?_
  rw [o2]
  by_cases a : x < 0
  · rw [if_pos a, if_pos a]
  · rw [if_neg a, if_neg a]
    by_cases b : nI o ≤ x
    · rw [if_pos b, if_pos b]
    · have : ix x < o := by
        rcases Nat.lt_or_ge (ix x) o with z | z
        · exact z
        · exact absurd (by rw [nI_ix a]; exact nI_le z (ix_lt x)) b
      rw [if_neg b, if_neg b, if_neg, o4 _ this]
      intro z
      rw [nI_ix a] at z
      exact nI_ge (b := 300) (show ix x < 300 by omega) (by decide) z
theorem P_handle {I : MI} {J : MJ} {T B0 : Nat} (h : St I J T B0) (h30 : T + 10001 ≤ 1000000000) (x : Int32) : Pair I J T B0 (M_X9_handle [mR (some 0), mI x]) (M_X10_handle [mR (some 188), mI x]) := by
  refine Pair.ask h h30 (u_handle h.1.1 I x) (w_handle h.1.2 I x) ?_
  unfold q_X8_handleAt
  by_cases a : x < 0
  · rw [if_pos a, if_pos a]; split <;> rfl
  · rw [if_neg a, if_neg a]
    by_cases b : (6 : Int32) ≤ x
    · rw [if_pos b, if_pos (five.mpr b)]; split <;> rfl
    · rw [if_neg b, if_neg (fun z => b (five.mp z))]
      have l6 := lt6 a b
      rcases h.2.2.2.2.2.2.2.2.2 with ⟨vol, ad, p, q, _, h2, ⟨nn, t, _, _, r⟩, _⟩ | ⟨_, h2, ⟨_, _, _, _, _, g6, _⟩, _⟩
      · rw [if_neg h2, r.B.ha _ l6]
      · rw [if_pos h2]
        exact g6 _ l6
end
section
/-! Refusals; the tape cut; what is seen; the seed. -/
theorem up2_s (I : MI) (a k : Nat) (v : Int32) : up2 I a k v a k = v := by simp [up2]
theorem up2_o (I : MI) {a x : Nat} (k : Nat) (v : Int32) (h : x ≠ a) : up2 I a k v x = I x := by
  funext j
  simp [up2, h]
theorem up2_k (I : MI) (a : Nat) {k j : Nat} (v : Int32) (h : j ≠ k) : up2 I a k v a j = I a j := by simp [up2, h]
theorem up2_r (I : MI) (a k : Nat) (v : Int32) (j : Nat) : up2 I a k v a j = if j = k then v else I a j := by simp [up2]
theorem rfz_o (I : MI) (k : Nat) {x : Nat} (h : x ≠ 186) : rfz I k x = I x := up2_o I k _ h
theorem rfR_o (I : MI) (k : Nat) {x : Nat} (h : x ≠ 190) : rfR I k x = I x := up2_o I k _ h
theorem St.refuse {I : MI} {J : MJ} {T B0 : Nat} (h : St I J T B0) (h30 : T + 10001 ≤ 1000000000) {k : Nat} (hk : k < 6) : St (rfR (rfz I k) k) J (T + 10001) B0 := by
  have o : ∀ x, x ≠ 186 → x ≠ 190 → rfR (rfz I k) k x = I x := fun x a b => by rw [rfR_o _ _ b, rfz_o _ _ a]
  obtain ⟨L, s7⟩ := h.2.2.2.2.2.2.2.1
  refine h.sm (h.2.1.fr (o _ (by decide) (by decide)) (o _ (by decide) (by decide)) (by rw [o 188 (by decide) (by decide)]) (o _ (by decide) (by decide))) (h.2.2.1.fr (o _ (by decide) (by decide)) (by rw [o 188 (by decide) (by decide)]) (by rw [o 188 (by decide) (by decide)])) ?_ (h.2.2.2.2.1.fr (by rw [o 0 (by decide) (by decide)]) (o _ (by decide) (by decide)) (by rw [o 188 (by decide) (by decide)]) (o _ (by decide) (by decide))) (h.2.2.2.2.2.1.fr (by rw [o 0 (by decide) (by decide)]) (o _ (by decide) (by decide)) (by rw [o 188 (by decide) (by decide)]) (o _ (by decide) (by decide))) ⟨L, s7.fr (by rw [o 69 (by decide) (by decide)]) (by rw [o 69 (by decide) (by decide)]) (fun x _ _ => o x (by omega) (by omega)) (by rw [o 188 (by decide) (by decide)]) (by rw [o 188 (by decide) (by decide)]) (o _ (by decide) (by decide)) (o _ (by decide) (by decide))⟩ (h.2.2.2.2.2.2.2.2.1.fr (by rw [o 188 (by decide) (by decide)]) (by rw [o 188 (by decide) (by decide)])) (fun x a _ _ _ _ _ => o x (by omega) (by omega)) (o _ (by decide) (by decide)) (fun _ => ⟨by rw [o 69 (by decide) (by decide)], by rw [o 69 (by decide) (by decide)]⟩) (fun x a => o x (by omega) (by omega)) (fun k _ => by rw [o 188 (by decide) (by decide)]) (fun k _ => by rw [o 194 (by decide) (by decide)]) (o _ (by decide) (by decide)) (by omega) h30
  refine h.2.2.2.1.ref (k := k) (fun j => ?_) (fun j => ?_) hk
  · rw [rfR_o _ _ (by decide)]
    exact up2_r I 186 k _ j
  · have := up2_r (rfz I k) 190 k (rfz I k 190 k + 1) j
    rw [rfz_o I k (show (190 : Nat) ≠ 186 by decide)] at this
    exact this
theorem P_end {I : MI} {J : MJ} {T B0 : Nat} (h : St I J T B0) (h30 : T + 10001 ≤ 1000000000) (x : Int32) : Pair I J T B0 (M_X9_end [mR (some 0), mI x]) (M_X10_end [mR (some 188), mI x]) := by
  obtain ⟨n, t1, t2, t3⟩ := h.2.1
  have c : ∀ Y : MI, Y 188 1 = nI n → (x < 0 ∨ ¬ x ≤ Y 188 1) = (x < 0 ∨ ¬ x ≤ nI n) := fun Y q => by rw [q]
  have q01 : vw 2 I 7 0 1 = nI n := t1.2.1
  have uE := u_end h.1.1 I x
  unfold q_X5_cut gQ_X5_cut at uE
  rw [q01] at uE
  by_cases a : x < 0
  · simp only [if_pos a, if_true] at uE
    rw [pt_vw] at uE
    refine ⟨0, _, _, J, uE, ?_, h.refuse h30 (k := 0) (by decide)⟩
    rw [w_end h.1.2 (rfz I 0) x, if_pos (Or.inl a)]
  · by_cases b : x ≤ nI n
    · simp only [if_neg a, if_pos b, if_neg i10] at uE
      have nx : x = nI (ix x) := nI_ix a
      have le : ix x ≤ n := by
        have := t1.1
        rw [nx] at b
        exact (nI_leI (ix_lt x) (by omega)).mp b
      have o : ∀ y, y ≠ 7 → pt I 7 (uv (vw 2 I 7) 0 1 x) y = I y := fun y hy => by
        by_cases z : y = 8
        · subst z
          have := pt_in (I := I) (a := 7) (V := uv (vw 2 I 7) 0 1 x) (1 : Fin 2)
          rw [show (7 + (1 : Fin 2).val) = 8 from rfl] at this
          rw [this, uv_k _ _ _ _ _ (by decide)]
          rfl
        · exact pt_out (by omega)
      have at7 : pt I 7 (uv (vw 2 I 7) 0 1 x) 7 1 = x := by
        rw [pt_0, uv_s]
      generalize pt I 7 (uv (vw 2 I 7) 0 1 x) = I1 at uE o at7
      refine ⟨1, _, up2 I1 188 1 x, J, uE, ?_, ?_⟩
      · rw [w_end h.1.2 I1 x, if_neg]
        rw [c I1 (by rw [o 188 (by decide)]; exact t2)]
        exact fun z => z.elim a (fun y => y b)
      · have o2 : ∀ y, y ≠ 7 → y ≠ 188 → up2 I1 188 1 x y = I y := fun y p q => by rw [up2_o _ _ _ q, o y p]
        have k2 : ∀ k, k ≠ 1 → up2 I1 188 1 x 188 k = I 188 k := fun k p => by rw [up2_k _ _ _ p, o 188 (by decide)]
        obtain ⟨L, s7⟩ := h.2.2.2.2.2.2.2.1
        refine h.sm ⟨ix x, ⟨by have := t1.1; omega, ?_, fun k hk => ?_⟩, ?_, fun k hk => ?_⟩ (h.2.2.1.fr (o2 _ (by decide) (by decide)) (k2 _ (by decide)) (k2 _ (by decide))) (h.2.2.2.1.fr (o2 _ (by decide) (by decide)) (o2 _ (by decide) (by decide))) (h.2.2.2.2.1.fr (by rw [o2 0 (by decide) (by decide)]) (o2 _ (by decide) (by decide)) (k2 _ (by decide)) (o2 _ (by decide) (by decide))) (h.2.2.2.2.2.1.fr (by rw [o2 0 (by decide) (by decide)]) (o2 _ (by decide) (by decide)) (k2 _ (by decide)) (o2 _ (by decide) (by decide))) ⟨L, s7.fr (by rw [o2 69 (by decide) (by decide)]) (by rw [o2 69 (by decide) (by decide)]) (fun y _ _ => o2 y (by omega) (by omega)) (k2 _ (by decide)) (k2 _ (by decide)) (o2 _ (by decide) (by decide)) (o2 _ (by decide) (by decide))⟩ (h.2.2.2.2.2.2.2.2.1.fr (k2 _ (by decide)) (k2 _ (by decide))) (fun y a _ _ _ _ _ => o2 y (by omega) (by omega)) (o2 _ (by decide) (by decide)) (fun _ => ⟨by rw [o2 69 (by decide) (by decide)], by rw [o2 69 (by decide) (by decide)]⟩) (fun y a => o2 y (by omega) (by omega)) (fun k q => k2 k (by omega)) (fun k _ => by rw [o2 194 (by decide) (by decide)]) (o2 _ (by decide) (by decide)) (by omega) h30
        · show up2 I1 188 1 x (7 + 0) 1 = _
          rw [up2_o _ _ _ (by decide)]
          exact at7.trans nx
        · show ∃ b, b < 256 ∧ up2 I1 188 1 x (7 + 1) k = nI b
          rw [o2 8 (by decide) (by decide)]
          exact t1.2.2 k (by omega)
        · rw [up2_s]
          exact nx
        · rw [o2 8 (by decide) (by decide), o2 189 (by decide) (by decide)]
          exact t3 k (by omega)
    · simp only [if_neg a, if_neg b, if_true] at uE
      rw [pt_vw] at uE
      refine ⟨0, _, _, J, uE, ?_, h.refuse h30 (k := 0) (by decide)⟩
      rw [w_end h.1.2 (rfz I 0) x, if_pos]
      rw [c (rfz I 0) (by rw [rfz_o _ _ (by decide)]; exact t2)]
      exact Or.inr b
theorem P_see {I : MI} {J : MJ} {T B0 : Nat} (h : St I J T B0) (h30 : T + 10001 ≤ 1000000000) (x : Int32) : Pair I J T B0 (M_X9_see [mR (some 0), mI x]) (M_X10_see [mR (some 188), mI x]) := by
  obtain ⟨L, s7⟩ := h.2.2.2.2.2.2.2.1
  have e36 : I 69 1 = I 188 36 := s7.1.trans s7.2.2.1.symm
  have uE := u_see h.1.1 I x
  by_cases a : I 69 1 = 0 ∨ ¬ 0 ≤ x
  · rw [if_pos a] at uE
    refine ⟨0, _, _, J, uE, ?_, h.refuse h30 (k := 5) (by decide)⟩
    rw [w_see h.1.2 (rfz I 5) x, if_pos]
    rw [rfz_o I 5 (by decide), ← e36]
    exact a
  · rw [if_neg a] at uE
    refine ⟨1, _, up2 (up2 I 69 2 x) 188 37 x, J, uE, ?_, ?_⟩
    · rw [w_see h.1.2 (up2 I 69 2 x) x, if_neg]
      rw [up2_o _ _ _ (by decide), ← e36]
      exact a
    · have o : ∀ y, y ≠ 69 → y ≠ 188 → up2 (up2 I 69 2 x) 188 37 x y = I y := fun y p q => by rw [up2_o _ _ _ q, up2_o _ _ _ p]
      have k : ∀ j, j ≠ 37 → up2 (up2 I 69 2 x) 188 37 x 188 j = I 188 j := fun j p => by rw [up2_k _ _ _ p, up2_o _ _ _ (by decide)]
      have z1 : up2 (up2 I 69 2 x) 188 37 x 69 1 = I 69 1 := by rw [up2_o _ _ _ (by decide), up2_k _ _ _ (by decide)]
      refine h.sm (h.2.1.fr (o _ (by decide) (by decide)) (o _ (by decide) (by decide)) (k _ (by decide)) (o _ (by decide) (by decide))) (h.2.2.1.fr (o _ (by decide) (by decide)) (k _ (by decide)) (k _ (by decide))) (h.2.2.2.1.fr (o _ (by decide) (by decide)) (o _ (by decide) (by decide))) (h.2.2.2.2.1.fr (by rw [o 0 (by decide) (by decide)]) (o _ (by decide) (by decide)) (k _ (by decide)) (o _ (by decide) (by decide))) (h.2.2.2.2.2.1.fr (by rw [o 0 (by decide) (by decide)]) (o _ (by decide) (by decide)) (k _ (by decide)) (o _ (by decide) (by decide))) ⟨L, ?_⟩ (h.2.2.2.2.2.2.2.2.1.fr (k _ (by decide)) (k _ (by decide))) (fun y a _ _ _ _ _ => o y (by omega) (by omega)) (o _ (by decide) (by decide)) (fun u => ?_) (fun y a => o y (by omega) (by omega)) (fun j q => k j (by omega)) (fun j _ => by rw [o 194 (by decide) (by decide)]) (o _ (by decide) (by decide)) (by omega) h30
      · refine ⟨z1.trans s7.1, s7.2.1, (k 36 (by decide)).trans s7.2.2.1, ?_, fun p hp => ?_⟩
        · rw [up2_s, up2_o _ _ _ (by decide), up2_s]
        · have := s7.2.1
          rw [o 203 (by decide) (by decide), o 202 (by decide) (by decide), vw_fr (I := I) (fun y _ _ => o y (by omega) (by omega))]
          exact s7.2.2.2.2 p hp
      · exact absurd (Or.inl u.2.2.2.1.1) a
theorem P_seed {I : MI} {J : MJ} {T B0 : Nat} (h : St I J T B0) (h30 : T + 10001 ≤ 1000000000) (x : Int32) : Pair I J T B0 (M_X9_seed [mR (some 0), mI x]) (M_X10_seed [mR (some 188), mI x]) := by
  have uE := u_seed h.1.1 I x
  by_cases a : 0 ≤ x
  · rw [if_pos a] at uE
    have k1 : KL (up2 J.1 0 15 (Int32.toInt64 x), J.2) := h.1.1
    have r1 : RefL (up2 J.1 0 15 (Int32.toInt64 x), J.2) := h.1.2
    have wE := w_seed r1 I x
    rw [if_pos a] at wE
    refine ⟨1, _, I, _, uE, wE, ?_⟩
    have hm := h.mono (show T ≤ T + 10001 by omega) h30
    refine ⟨h.1, hm.2.1, hm.2.2.1, hm.2.2.2.1, hm.2.2.2.2.1, hm.2.2.2.2.2.1, ?_, hm.2.2.2.2.2.2.2.1, hm.2.2.2.2.2.2.2.2.1, hm.2.2.2.2.2.2.2.2.2⟩
    have e0 : up2 (up2 J.1 0 15 (Int32.toInt64 x)) 188 31 (Int32.toInt64 x) 0 15 = Int32.toInt64 x := by simp [up2]
    have e1 : up2 (up2 J.1 0 15 (Int32.toInt64 x)) 188 31 (Int32.toInt64 x) 188 31 = Int32.toInt64 x := by simp [up2]
    refine ⟨e0.trans e1.symm, ix x, ix_lt x, ?_⟩
    show up2 (up2 J.1 0 15 (Int32.toInt64 x)) 188 31 (Int32.toInt64 x) 0 15 = _
    rw [e0]
    have : x = nI (ix x) := nI_ix (Int32.not_lt.mpr a)
    rw [this, nI_l (ix_lt _), ← this]
  · rw [if_neg a] at uE
    refine ⟨0, _, _, J, uE, ?_, h.refuse h30 (k := 5) (by decide)⟩
    rw [w_seed h.1.2 (rfz I 5) x, if_neg a]
end
section
/-! Paths taken off the tape, on both sides. -/
theorem rr_in {c : Nat} (hc : c < 12) : 158 ≤ rr 158 c ∧ rr 158 c + 2 ≤ 183 := by
  unfold rr
  split <;> omega
theorem lpRow_out (T : Nat) (Q : RouV) : ∀ (f fr c pos : Nat) (I : MI) {x : Nat}, (x < 158 ∨ 183 ≤ x) → (lpRow T Q f fr c pos I).2 x = I x
  | 0, fr, c, pos, I, x, _ => rfl
  | f + 1, fr, c, pos, I, x, h => by
    unfold lpRow
    by_cases a : pos < T ∧ ¬ q_X5_at Q (nI pos) = 32
    · rw [if_pos a]; exact lpRow_out T Q f fr c (pos + 1) I h
    · rw [if_neg a]
      by_cases b : 12 ≤ c
      · rw [if_pos b]
      · have := rr_in (show c < 12 by omega)
        have o : ∀ P : RouV, pt I (rr 158 c) P x = I x := fun P => pt_out (by omega)
        rw [if_neg b]
        split
        · exact o _
        · rw [lpRow_out T Q f _ _ _ _ h]
          exact o _
/-- the bytes of one path are passed over -/
theorem lpRow_scan {Q : RouV} {T : Nat} (t : Tap Q T) {to : Nat} (hto : to ≤ T) : ∀ (n f fr c pos : Nat) (I : MI), pos + n = to → n ≤ f → (∀ k, pos ≤ k → k < to → ¬ Q 1 k = 32) → lpRow T Q f fr c pos I = lpRow T Q (f - n) fr c to I
  | 0, f, fr, c, pos, I, h, _, _ => by
    have : pos = to := by omega
    rw [this]
    rfl
  | n + 1, 0, fr, c, pos, I, h, hf, _ => by omega
  | n + 1, f + 1, fr, c, pos, I, h, hf, hb => by
    rw [lpRow, if_pos ⟨by omega, by rw [t.in (by omega)]; exact hb pos (Nat.le_refl _) (by omega)⟩, lpRow_scan t hto n f fr c (pos + 1) I (by omega) (by omega) (fun k a b => hb k (by omega) b), show f + 1 - (n + 1) = f - n by omega]
/-- at the end of one path -/
theorem lpRow_end {Q : RouV} {T : Nat} (t : Tap Q T) {to : Nat} (hend : to = T ∨ (to < T ∧ Q 1 to = 32)) (f fr c : Nat) (I : MI) (hc : c < 12) : lpRow T Q (f + 1) fr c to I = if q_X4_readFrom 12 Q (vw 2 I (rr 158 c)) (nI fr) (nI to) = 0 then (-1, pt I (rr 158 c) (gP_X4_readFrom 12 Q (vw 2 I (rr 158 c)) (nI fr) (nI to))) else lpRow T Q f (to + 1) (c + 1) (to + 1) (pt I (rr 158 c) (gP_X4_readFrom 12 Q (vw 2 I (rr 158 c)) (nI fr) (nI to))) := by
  rw [lpRow, if_neg, if_neg (by omega)]
  rintro ⟨z1, z2⟩
  rcases hend with y | ⟨y1, y2⟩
  · omega
  · rw [t.in y1] at z2
    exact z2 y2
/-- the count only grows -/
theorem lpRow_ge (T : Nat) (Q : RouV) : ∀ (f fr c pos : Nat) (I : MI), c ≤ 12 → (lpRow T Q f fr c pos I).1 = -1 ∨ ∃ c', c ≤ c' ∧ c' ≤ 12 ∧ (lpRow T Q f fr c pos I).1 = nI c'
  | 0, fr, c, pos, I, h => Or.inr ⟨c, Nat.le_refl _, h, rfl⟩
  | f + 1, fr, c, pos, I, h => by
    unfold lpRow
    by_cases a : pos < T ∧ ¬ q_X5_at Q (nI pos) = 32
    · rw [if_pos a]; exact lpRow_ge T Q f fr c (pos + 1) I h
    · rw [if_neg a]
      by_cases b : 12 ≤ c
      · rw [if_pos b]; exact Or.inl rfl
      · rw [if_neg b]
        split
        · exact Or.inl rfl
        · rcases lpRow_ge T Q f (pos + 1) (c + 1) (pos + 1) (pt I (rr 158 c) (gP_X4_readFrom 12 Q (vw 2 I (rr 158 c)) (nI fr) (nI pos))) (by omega) with z | ⟨c', c1, c2, c3⟩
          · exact Or.inl z
          · exact Or.inr ⟨c', by omega, c2, c3⟩
/-- the reference's heap where it begins to read -/
def bgP (I : MI) (T : Nat) : MI := up2 (up2 (up2 I 188 3 (nI T)) 188 1 0) 188 2 0
theorem w_beginsPaths {J : MJ} (h : RefL J) (I : MI) {T : Nat} (ht : I 188 1 = nI T) : M_X10_beginsPaths [mR (some 188)] (I, J) = some (none, (bgP I T, J)) := by
  rw [E_X10_beginsPaths]
  simp only [h.fi, Option.bind_some, h.wi, ht]
  rfl
theorem bgP_o (I : MI) (T : Nat) {x : Nat} (h : x ≠ 188) : bgP I T x = I x := by
  unfold bgP
  rw [up2_o _ _ _ h, up2_o _ _ _ h, up2_o _ _ _ h]
theorem bgP_k (I : MI) (T : Nat) {k : Nat} (h1 : k ≠ 1) (h2 : k ≠ 2) (h3 : k ≠ 3) : bgP I T 188 k = I 188 k := by
  unfold bgP
  rw [up2_k _ _ _ h2, up2_k _ _ _ h1, up2_k _ _ _ h3]
theorem bgP_3 (I : MI) (T : Nat) : bgP I T 188 3 = nI T ∧ bgP I T 188 1 = 0 ∧ bgP I T 188 2 = 0 := by
  unfold bgP
  simp [up2]
theorem pF_bg (I : MI) (T : Nat) : pF (bgP I T) 0 (bgP I T 188 15) (bgP I T 192) = bgP I T := by
  have := pF_id (bgP I T)
  rw [(bgP_3 I T).2.2] at this
  exact this
/-- the class's row of paths and the reference's one path -/
theorem path1 {I Y : MI} {J : MJ} {T : Nat} (h : RefL J) (t : Tap (vw 2 I 7) T) (e1 : Y 188 1 = nI T) (e2 : ∀ k, k < T → Y 189 k = I 8 k) : ∃ y p' l' S', M_X10_isPath [mR (some 188)] (Y, J) = some (some (mI y), (pF (bgP Y T) (nI p') (nI l') S', J)) ∧ (¬ I 1 6 ≤ 0 → ((rowO I T).1 = 1 ∧ y = 1 ∧ l' ≤ 12 ∧ Pth (vw 2 (rowO I T).2 158) S' l') ∨ (¬ (rowO I T).1 = 1 ∧ y = 0)) := by
  have T4 := t.1
  have rt : RTap (bgP Y T) (vw 2 I 7) T := ⟨t, (bgP_3 Y T).1, fun k hk => by rw [bgP_o _ _ (by decide)]; exact e2 k hk⟩
  obtain ⟨to, o1, o2, o3, o4⟩ := ex_first (fun k => vw 2 I 7 1 k = 32) 0 T (Nat.zero_le _)
  obtain ⟨y, p', l', S', g1, g2, g3⟩ := w_isPathHere rt h (Nat.zero_le to) o2 o4 o3 (bgP Y T 188 15) (bgP Y T 192) (vw 2 I 158)
  have z0 : nI 0 = 0 := rfl
  rw [z0, pF_bg] at g1
  have w : M_X10_isPath [mR (some 188)] (Y, J) = (if y = 0 then some (some (mI 0), (pF (bgP Y T) (nI p') (nI l') S', J)) else if nI p' = nI T then some (some (mI 1), (pF (bgP Y T) (nI p') (nI l') S', J)) else some (some (mI 0), (pF (bgP Y T) (nI p') (nI l') S', J))) := by
    rw [E_X10_isPath]
    simp only [h.kt, if_true, w_beginsPaths h Y e1, Option.bind_some, asV_n, g1, asI_I, h.fi, pF_2, pF_k _ _ _ _ (show (3 : Nat) ≠ 2 by decide) (show (3 : Nat) ≠ 15 by decide), (bgP_3 Y T).1]
    simp
  rw [w]
  have row : ¬ I 1 6 ≤ 0 → rowO I T = if q_X4_readFrom 12 (vw 2 I 7) (vw 2 I 158) (nI 0) (nI to) = 0 then (-1, pt I 158 (gP_X4_readFrom 12 (vw 2 I 7) (vw 2 I 158) (nI 0) (nI to))) else lpRow T (vw 2 I 7) (T - to) (to + 1) 1 (to + 1) (pt I 158 (gP_X4_readFrom 12 (vw 2 I 7) (vw 2 I 158) (nI 0) (nI to))) := by
    intro q
    unfold rowO
    rw [if_neg q, lpRow_scan t o2 to (T + 1) 0 0 0 I (by omega) (by omega) (fun k a b => o3 k a b), show T + 1 - to = (T - to) + 1 by omega, lpRow_end t (by rcases o4 with z | z; exact Or.inl z; rcases Nat.eq_or_lt_of_le o2 with w | w; exact Or.inl w; exact Or.inr ⟨w, z⟩) _ _ _ _ (by decide)]
    rfl
  rcases g3 with ⟨c1, c2, c3, c4, c5⟩ | ⟨c1, c2⟩
  · subst c2 c3
    rw [if_neg i10]
    by_cases e : p' = T
    · subst e
      rw [if_pos rfl]
      refine ⟨1, p', l', S', rfl, fun q => Or.inl ?_⟩
      rw [row q, c1, if_neg i10, Nat.sub_self]
      refine ⟨rfl, rfl, c4, ?_⟩
      show Pth (vw 2 (pt I 158 _) 158) S' l'
      rw [vw_pt]
      exact c5
    · rw [if_neg (fun z => e ((nI_eq (by omega) (by omega)).mp z))]
      refine ⟨0, p', l', S', rfl, fun q => Or.inr ⟨?_, rfl⟩⟩
      rw [row q, c1, if_neg i10]
      have hlt : p' < T := by omega
      -- at least one path more
      intro z
      obtain ⟨to2, q1, q2, q3, q4⟩ := ex_first (fun k => vw 2 I 7 1 k = 32) (p' + 1) T (by omega)
      rw [lpRow_scan t q2 (to2 - (p' + 1)) (T - p') (p' + 1) 1 (p' + 1) _ (by omega) (by omega) (fun k a b => q3 k a b), show T - p' - (to2 - (p' + 1)) = (T - to2) + 1 by omega, lpRow_end t (by rcases q4 with z | z; exact Or.inl z; rcases Nat.eq_or_lt_of_le q2 with w | w; exact Or.inl w; exact Or.inr ⟨w, z⟩) _ _ _ _ (by decide)] at z
      split at z
      · exact absurd (show (-1 : Int32) = 1 from z) (by decide)
      · rcases lpRow_ge T (vw 2 I 7) (T - to2) (to2 + 1) (1 + 1) (to2 + 1) (pt (pt I 158 (gP_X4_readFrom 12 (vw 2 I 7) (vw 2 I 158) (nI 0) (nI p'))) (rr 158 1) (gP_X4_readFrom 12 (vw 2 I 7) (vw 2 (pt I 158 (gP_X4_readFrom 12 (vw 2 I 7) (vw 2 I 158) (nI 0) (nI p'))) (rr 158 1)) (nI (p' + 1)) (nI to2))) (by decide) with y | ⟨c', c1', c2', c3'⟩
        · rw [y] at z
          exact absurd z (by decide)
        · rw [c3'] at z
          have : c' = 1 := (nI_eq (b := 1) (by omega) (by decide)).mp z
          omega
  · have no : ¬ I 1 6 ≤ 0 → ¬ (rowO I T).1 = 1 := fun q => by
      rw [row q, c1, if_pos rfl]
      exact (by decide : ¬ (-1 : Int32) = 1)
    rcases c2 with z | ⟨z1, z2, z3⟩
    · rw [if_pos z]
      exact ⟨0, p', l', S', rfl, fun q => Or.inr ⟨no q, rfl⟩⟩
    · subst z1
      rw [if_neg i10, if_neg (fun w => by have := (nI_eq (by omega) (by omega)).mp w; omega)]
      exact ⟨0, p', l', S', rfl, fun q => Or.inr ⟨no q, rfl⟩⟩
end
section
/-! Calls with a path: what they leave as it is. -/
theorem tkn_o (I : MI) (T : Nat) {x : Nat} (h7 : x ≠ 7) (h : x < 158 ∨ 183 ≤ x) : tkn I T x = I x := by
  have r : (rowO I T).2 x = I x := by
    unfold rowO
    by_cases a : I 1 6 ≤ 0
    · rw [if_pos a]
    · rw [if_neg a]
      exact lpRow_out _ _ _ _ _ _ _ h
  unfold tkn clr
  by_cases z : x = 8
  · subst z
    have := pt_in (I := (rowO I T).2) (a := 7) (V := gQ_X5_clear (vw 2 (rowO I T).2 7)) (1 : Fin 2)
    rw [show (7 + (1 : Fin 2).val) = 8 from rfl] at this
    rw [this]
    unfold gQ_X5_clear
    rw [uv_k _ _ _ _ _ (by decide)]
    exact r
  · rw [pt_out (by omega)]
    exact r
theorem tkn_7 (I : MI) (T : Nat) : tkn I T 7 1 = 0 := by
  unfold tkn clr gQ_X5_clear
  rw [pt_0, uv_s]
theorem tkn_r (I : MI) (T : Nat) {x : Nat} (h7 : x ≠ 7) (h8 : x ≠ 8) : tkn I T x = (rowO I T).2 x := by
  unfold tkn clr
  rw [pt_out (by omega)]
/-- the fields and rows that no act with a path touches -/
def Kee (I I2 : MI) : Prop := I2 9 = I 9 ∧ I2 69 = I 69 ∧ (∀ x, 134 ≤ x → x < 158 → I2 x = I x) ∧ I2 202 = I 202 ∧ I2 203 = I 203 ∧ ∀ k, k = 6 ∨ k = 7 ∨ k = 11 ∨ k = 13 ∨ k = 20 ∨ k = 21 ∨ k = 36 ∨ k = 37 → I2 188 k = I 188 k
def Kee4 (I I2 : MI) : Prop := I2 0 11 = I 0 11 ∧ I2 185 = I 185 ∧ I2 188 25 = I 188 25 ∧ I2 197 = I 197
def Kee5 (I I2 : MI) : Prop := I2 0 14 = I 0 14 ∧ I2 187 = I 187 ∧ I2 188 32 = I 188 32 ∧ I2 201 = I 201
theorem St.act {I I' I2 X : MI} {J J1 : MJ} {T B0 vol p q : Nat} {D : RowV} (h : St I J T B0) (h30 : T + 10001 ≤ 1000000000) (hv : I 188 11 = nI vol) (ht : ¬ bz (I 188 13) = 0) (kf : KpF I' J p q vol T B0 D X J1) (e199 : I' 199 = I 199) (s1 : S1 I2) (s3 : S3 I2) (k0 : Kee I I2) (s4 : S4 I2) (s5 : S5 I2) (w : Wd I2 1 17 29 31 (I2 194) vol (T + 10001)) (a67 : I2 67 = X 67) (ak : ∀ a, 208 ≤ a → I2 a = X a) (a28 : I2 188 28 = nI (min (q + 1) 20)) (a29 : I2 188 29 = nI ((p + 1) % 20)) (aD : ∀ k, k < 1853 → I2 199 (1853 * ((p + 1) % 20) + k) = D k) (aS : ∀ s k, s < 20 → s ≠ (p + 1) % 20 → k < 1853 → I2 199 (1853 * s + k) = I 199 (1853 * s + k)) : St I2 J1 (T + 10001) B0 := by
  obtain ⟨kl, rl, j0, x0, ad', hh⟩ := kf
  have hs := hh I2 a67 ak a28 a29 aD (fun s k a b c => by rw [aS s k a b c, e199])
  obtain ⟨k9, k69, k134, k202, k203, kk⟩ := k0
  obtain ⟨L, s7⟩ := h.2.2.2.2.2.2.2.1
  refine ⟨⟨kl, rl⟩, s1, h.2.2.1.fr k9 (kk 6 (by omega)) (kk 7 (by omega)), s3, s4, s5, h.2.2.2.2.2.2.1.fr (j0 0 (by decide)) (j0 188 (by decide)), ⟨L, s7.fr (by rw [k69]) (by rw [k69]) k134 (kk 36 (by omega)) (kk 37 (by omega)) k202 k203⟩, h.2.2.2.2.2.2.2.2.1.fr (kk 20 (by omega)) (kk 21 (by omega)), Or.inl ⟨vol, ad', (p + 1) % 20, min (q + 1) 20, by rw [kk 11 (by omega)]; exact hv, by rw [kk 13 (by omega)]; exact ht, w, ?_⟩⟩
  exact hs.fr rfl rfl rfl rfl (fun _ _ => rfl) (by omega) h30
/-- a call with a path that is refused at once -/
theorem St.tk {I I2 : MI} {J : MJ} {T B0 : Nat} (h : St I J T B0) (h30 : T + 10001 ≤ 1000000000) (s3 : S3 I2) (a : ∀ x, x ≠ 7 → (x < 158 ∨ 183 ≤ x) → x ≠ 186 → x ≠ 188 → x ≠ 190 → x ≠ 192 → x ≠ 193 → x ≠ 204 → x ≠ 205 → I2 x = I x) (b : ∀ k, k ≠ 1 → k ≠ 2 → k ≠ 3 → k ≠ 15 → k ≠ 17 → k ≠ 38 → I2 188 k = I 188 k) (a7 : I2 7 1 = 0) (b1 : I2 188 1 = 0) : St I2 J (T + 10001) B0 := by
  have a' : ∀ x, x < 158 → x ≠ 7 → I2 x = I x := fun x p q => a x q (by omega) (by omega) (by omega) (by omega) (by omega) (by omega) (by omega) (by omega)
  have r' : ∀ x, 183 ≤ x → x ≠ 186 → x ≠ 188 → x ≠ 190 → x ≠ 192 → x ≠ 193 → x ≠ 204 → x ≠ 205 → I2 x = I x := fun x p q => a x (by omega) (by omega) q
  obtain ⟨L, s7⟩ := h.2.2.2.2.2.2.2.1
  refine h.sm (S1.emp a7 b1) (h.2.2.1.fr (a' _ (by decide) (by decide)) (b _ (by decide) (by decide) (by decide) (by decide) (by decide) (by decide)) (b _ (by decide) (by decide) (by decide) (by decide) (by decide) (by decide))) s3 (h.2.2.2.2.1.fr (by rw [a' 0 (by decide) (by decide)]) (r' _ (by decide) (by decide) (by decide) (by decide) (by decide) (by decide) (by decide) (by decide)) (b _ (by decide) (by decide) (by decide) (by decide) (by decide) (by decide)) (r' _ (by decide) (by decide) (by decide) (by decide) (by decide) (by decide) (by decide) (by decide))) (h.2.2.2.2.2.1.fr (by rw [a' 0 (by decide) (by decide)]) (r' _ (by decide) (by decide) (by decide) (by decide) (by decide) (by decide) (by decide) (by decide)) (b _ (by decide) (by decide) (by decide) (by decide) (by decide) (by decide)) (r' _ (by decide) (by decide) (by decide) (by decide) (by decide) (by decide) (by decide) (by decide))) ⟨L, s7.fr (by rw [a' 69 (by decide) (by decide)]) (by rw [a' 69 (by decide) (by decide)]) (fun x _ _ => a' x (by omega) (by omega)) (b _ (by decide) (by decide) (by decide) (by decide) (by decide) (by decide)) (b _ (by decide) (by decide) (by decide) (by decide) (by decide) (by decide)) (r' _ (by decide) (by decide) (by decide) (by decide) (by decide) (by decide) (by decide) (by decide)) (r' _ (by decide) (by decide) (by decide) (by decide) (by decide) (by decide) (by decide) (by decide))⟩ (h.2.2.2.2.2.2.2.2.1.fr (b _ (by decide) (by decide) (by decide) (by decide) (by decide) (by decide)) (b _ (by decide) (by decide) (by decide) (by decide) (by decide) (by decide))) (fun x p q _ _ _ _ => a' x (by omega) q) (a' _ (by decide) (by decide)) (fun _ => ⟨by rw [a' 69 (by decide) (by decide)], by rw [a' 69 (by decide) (by decide)]⟩) (fun x p => r' x (by omega) (by omega) (by omega) (by omega) (by omega) (by omega) (by omega) (by omega)) (fun k q => b k (by omega) (by omega) (by omega) (by omega) (by omega) (by omega)) (fun k _ => by rw [r' 194 (by decide) (by decide) (by decide) (by decide) (by decide) (by decide) (by decide) (by decide)]) (r' _ (by decide) (by decide) (by decide) (by decide) (by decide) (by decide) (by decide) (by decide)) (by omega) h30
theorem S3.rf {I Y1 : MI} {k T : Nat} (h : S3 I) (hk : k < 6) (e186 : Y1 186 = rfz (tkn I T) k 186) (e190 : Y1 190 = I 190) : S3 (rfR Y1 k) := by
  refine h.ref (k := k) (fun j => ?_) (fun j => ?_) hk
  · rw [rfR_o _ _ (by decide), e186]
    unfold rfz
    rw [up2_r, tkn_o I T (show (186 : Nat) ≠ 7 by decide) (by decide)]
  · unfold rfR
    rw [up2_r, e190]
/-- the reference's ways to refuse a path -/
def Rfs (g : MH → Option MO) (k : Nat) : Prop := ∀ (J : MJ) (X X1 : MI) (y : Int32), RefL J → M_X10_isPath [mR (some 188)] (X, J) = some (some (mI y), (X1, J)) → (y = 0 ∨ (¬ y = 0 ∧ bz (X1 188 13) = 0)) → g (X, J) = some (some (mI (-1)), (rfR X1 k, J))
theorem Pair.path_no {I : MI} {J : MJ} {T B0 n : Nat} (h : St I J T B0) (h30 : T + 10001 ≤ 1000000000) (t1 : Tap (vw 2 I 7) n) (t2 : I 188 1 = nI n) (t3 : ∀ k, k < n → I 189 k = I 8 k) (hn : ¬ (rowO I n).1 = 1) {k : Nat} (hk : k < 6) {f g : MH → Option MO} (hf : f (I, J) = some (some (mI (-1)), (rfz (tkn I n) k, J))) (hg : Rfs g k) : Pair I J T B0 f g := by
  have o : ∀ x, x ≠ 7 → (x < 158 ∨ 183 ≤ x) → x ≠ 186 → rfz (tkn I n) k x = I x := fun x p q r => by rw [rfz_o _ _ r, tkn_o _ _ p q]
  obtain ⟨y, p', l', S', g1, g2⟩ := path1 (Y := rfz (tkn I n) k) h.1.2 t1 (by rw [o 188 (by decide) (by decide) (by decide)]; exact t2) (fun j hj => by rw [o 189 (by decide) (by decide) (by decide)]; exact t3 j hj)
  have po : ∀ x, x ≠ 188 → x ≠ 192 → pF (bgP (rfz (tkn I n) k) n) (nI p') (nI l') S' x = rfz (tkn I n) k x := fun x p q => by rw [pF_o _ _ _ _ p q, bgP_o _ _ p]
  have pk : ∀ j, j ≠ 1 → j ≠ 2 → j ≠ 3 → j ≠ 15 → pF (bgP (rfz (tkn I n) k) n) (nI p') (nI l') S' 188 j = I 188 j := fun j a b c d => by rw [pF_k _ _ _ _ b d, bgP_k _ _ a b c, o 188 (by decide) (by decide) (by decide)]
  have cond : y = 0 ∨ (¬ y = 0 ∧ bz (pF (bgP (rfz (tkn I n) k) n) (nI p') (nI l') S' 188 13) = 0) := by
    rcases h.2.2.2.2.2.2.2.2.2 with ⟨vol, ad, p, q, _, _, ⟨nn, t, i, _⟩, _⟩ | u
    · rcases g2 (by
        have := i.N.vs
        have v := i.N.v3
        show ¬ vw 6 I 1 0 6 ≤ 0
        rw [this]
        exact nI_nle v.1 (by omega)) with ⟨z, _⟩ | ⟨_, z⟩
      · exact absurd z hn
      · exact Or.inl z
    · by_cases z : y = 0
      · exact Or.inl z
      · refine Or.inr ⟨z, ?_⟩
        rw [pk 13 (by decide) (by decide) (by decide) (by decide)]
        exact u.2.1
  refine ⟨-1, _, _, J, hf, hg J _ _ y h.1.2 g1 cond, ?_⟩
  refine h.tk h30 (h.2.2.2.1.rf hk (po 186 (by decide) (by decide)) (by rw [po 190 (by decide) (by decide), o 190 (by decide) (by decide) (by decide)])) (fun x a1 a2 a3 a4 a5 a6 _ _ _ => ?_) (fun j b1 b2 b3 b4 _ _ => ?_) ?_ ?_
  · rw [rfR_o _ _ a5, po x a4 a6, o x a1 a2 a3]
  · rw [rfR_o _ _ (by decide)]
    exact pk j b1 b2 b3 b4
  · rw [rfR_o _ _ (by decide), po 7 (by decide) (by decide), rfz_o _ _ (by decide)]
    exact tkn_7 I n
  · rw [rfR_o _ _ (by decide), pF_k _ _ _ _ (by decide) (by decide)]
    exact (bgP_3 _ _).2.1
theorem Rfs.look : Rfs (M_X10_look [mR (some 188)]) 2 := by
  intro J X X1 y h hp hc
  rw [E_X10_look]
  simp only [h.kt, if_true, hp, Option.bind_some, asI_I, h.fz, w_refuses h _ (show (2 : Int32) = nI 2 from rfl) (by decide)]
  rcases hc with z | ⟨z1, z2⟩
  · rw [if_pos z]
  · rw [if_neg z1, if_pos z2]
end
section
/-! Acts with a path: how they begin and end; look. -/
/-- the reference's heap where it has read a path and kept -/
def zH (I1 : MI) (n p' l' : Nat) (S' : RowV) (pp qq : Nat) : MI := kpR (pF (bgP I1 n) (nI p') (nI l') S') pp qq
theorem zH_o (I1 : MI) (n p' l' : Nat) (S' : RowV) (pp qq : Nat) {x : Nat} (h1 : x ≠ 188) (h2 : x ≠ 192) (h3 : x ≠ 199) : zH I1 n p' l' S' pp qq x = I1 x := by
  unfold zH
  rw [kpR_o _ _ _ h1 h3, pF_o _ _ _ _ h1 h2, bgP_o _ _ h1]
theorem zH_k (I1 : MI) (n p' l' : Nat) (S' : RowV) (pp qq : Nat) {k : Nat} (h1 : k ≠ 1) (h2 : k ≠ 2) (h3 : k ≠ 3) (h15 : k ≠ 15) (h28 : k ≠ 28) (h29 : k ≠ 29) : zH I1 n p' l' S' pp qq 188 k = I1 188 k := by
  unfold zH
  rw [kpR_k _ _ _ h28 h29, pF_k _ _ _ _ h2 h15, bgP_k _ _ h1 h2 h3]
theorem zH_1 (I1 : MI) (n p' l' : Nat) (S' : RowV) (pp qq : Nat) : zH I1 n p' l' S' pp qq 188 1 = 0 ∧ zH I1 n p' l' S' pp qq 188 15 = nI l' ∧ zH I1 n p' l' S' pp qq 192 = S' ∧ zH I1 n p' l' S' pp qq 188 29 = nI pp ∧ zH I1 n p' l' S' pp qq 188 28 = nI qq := by
  unfold zH
  refine ⟨?_, ?_, ?_, (kpR_29 _ _ _).1, (kpR_29 _ _ _).2⟩
  · rw [kpR_k _ _ _ (by decide) (by decide), pF_k _ _ _ _ (by decide) (by decide)]
    exact (bgP_3 _ _).2.1
  · rw [kpR_k _ _ _ (by decide) (by decide), pF_15]
  · rw [kpR_o _ _ _ (by decide) (by decide), pF_S]
theorem zH_a (I1 : MI) (n p' l' : Nat) (S' : RowV) (pp qq : Nat) : (∀ k, k < 1853 → zH I1 n p' l' S' pp qq 199 (1853 * pp + k) = I1 194 k) ∧ ∀ s k, s ≠ pp → k < 1853 → zH I1 n p' l' S' pp qq 199 (1853 * s + k) = I1 199 (1853 * s + k) := by
  have a := kpR_a (pF (bgP I1 n) (nI p') (nI l') S') pp qq
  unfold zH
  rw [pF_o _ _ _ _ (by decide) (by decide), bgP_o _ _ (by decide), pF_o _ _ _ _ (by decide) (by decide), bgP_o _ _ (by decide)] at a
  exact a
theorem ref_pre {I I1 : MI} {J1 : MJ} {n p q : Nat} (r1 : RefL J1) (t1 : Tap (vw 2 I 7) n) (t2 : I 188 1 = nI n) (t3 : ∀ k, k < n → I 189 k = I 8 k) (hy : (rowO I n).1 = 1) (hv : ¬ I 1 6 ≤ 0) (e188 : I1 188 = I 188) (e189 : I1 189 = I 189) (hp : I 188 29 = nI p) (p20 : p < 20) (hq : I 188 28 = nI q) (q20 : q ≤ 20) : ∃ p' l' S', M_X10_isPath [mR (some 188)] (I1, J1) = some (some (mI 1), (pF (bgP I1 n) (nI p') (nI l') S', J1)) ∧ M_X10_keeps [mR (some 188)] (pF (bgP I1 n) (nI p') (nI l') S', J1) = some (none, (zH I1 n p' l' S' ((p + 1) % 20) (min (q + 1) 20), J1)) ∧ l' ≤ 12 ∧ Pth (vw 2 (tkn I n) 158) S' l' := by
  obtain ⟨y, p', l', S', g1, g2⟩ := path1 (Y := I1) r1 t1 (by rw [e188]; exact t2) (fun j hj => by rw [e189]; exact t3 j hj)
  rcases g2 hv with ⟨_, c2, c3, c4⟩ | ⟨z, _⟩
  · subst c2
    refine ⟨p', l', S', g1, ?_, c3, ?_⟩
    · exact w_keeps r1 _ (by rw [pF_k _ _ _ _ (by decide) (by decide), bgP_k _ _ (by decide) (by decide) (by decide), e188]; exact hp) p20 (by rw [pF_k _ _ _ _ (by decide) (by decide), bgP_k _ _ (by decide) (by decide) (by decide), e188]; exact hq) q20
    · rw [vw_fr (I := (rowO I n).2) (fun x a b => tkn_r I n (by omega) (by omega))]
      exact c4
  · exact absurd hy z
/-- how an act with a path ends -/
theorem St.fin {I X I1 I2 : MI} {J J1 : MJ} {T B0 vol p q n p' l' : Nat} {S' : RowV} (h : St I J T B0) (h30 : T + 10001 ≤ 1000000000) (hv : I 188 11 = nI vol) (ht : ¬ bz (I 188 13) = 0) (kf : KpF (tkn I n) J p q vol T B0 (I 194) X J1) (x1 : ∀ x, (7 ≤ x ∧ x < 17) ∨ 55 ≤ x ∨ x = 0 → x ≠ 186 → I1 x = X x) (z2 : ∀ x, x ≠ 188 → x ≠ 190 → x ≠ 194 → x ≠ 195 → I2 x = zH I1 n p' l' S' ((p + 1) % 20) (min (q + 1) 20) x) (zk : ∀ k, k ≠ 22 → I2 188 k = zH I1 n p' l' S' ((p + 1) % 20) (min (q + 1) 20) 188 k) (s3 : S3 I2) (w : Wd I2 1 17 29 31 (I2 194) vol (T + 10001)) : St I2 J1 (T + 10001) B0 := by
  have xo := kf.2.2.2.1
  have low : ∀ x, (8 ≤ x ∧ x < 17) ∨ (55 ≤ x ∧ x < 158) ∨ (183 ≤ x ∧ x < 208) ∨ x = 0 → x ≠ 67 → x ≠ 186 → x ≠ 188 → x ≠ 190 → x ≠ 192 → x ≠ 194 → x ≠ 195 → x ≠ 199 → I2 x = I x := fun x a b c d e f g i j => by
    rw [z2 x d e g i, zH_o _ _ _ _ _ _ _ d f j, x1 x (by omega) c, xo x (by omega) b, tkn_o _ _ (by omega) (by omega)]
  have e188 : I1 188 = I 188 := by rw [x1 188 (by omega) (by decide), xo 188 (by decide) (by decide), tkn_o _ _ (by decide) (by decide)]
  have fld : ∀ k, k ≠ 1 → k ≠ 2 → k ≠ 3 → k ≠ 15 → k ≠ 22 → k ≠ 28 → k ≠ 29 → I2 188 k = I 188 k := fun k a b c d e f g => by
    rw [zk k e, zH_k _ _ _ _ _ _ _ a b c d f g, e188]
  have z1 := zH_1 I1 n p' l' S' ((p + 1) % 20) (min (q + 1) 20)
  have za := zH_a I1 n p' l' S' ((p + 1) % 20) (min (q + 1) 20)
  have e199 : I2 199 = zH I1 n p' l' S' ((p + 1) % 20) (min (q + 1) 20) 199 := z2 199 (by decide) (by decide) (by decide) (by decide)
  have i194 : I1 194 = I 194 := by rw [x1 194 (by omega) (by decide), xo 194 (by decide) (by decide), tkn_o _ _ (by decide) (by decide)]
  have i199 : I1 199 = I 199 := by rw [x1 199 (by omega) (by decide), xo 199 (by decide) (by decide), tkn_o _ _ (by decide) (by decide)]
  refine h.act h30 hv ht kf (tkn_o _ _ (by decide) (by decide)) (S1.emp ?_ ?_) s3 ⟨low 9 (by omega) (by decide) (by decide) (by decide) (by decide) (by decide) (by decide) (by decide) (by decide), low 69 (by omega) (by decide) (by decide) (by decide) (by decide) (by decide) (by decide) (by decide) (by decide), fun x a b => low x (by omega) (by omega) (by omega) (by omega) (by omega) (by omega) (by omega) (by omega) (by omega), low 202 (by omega) (by decide) (by decide) (by decide) (by decide) (by decide) (by decide) (by decide) (by decide), low 203 (by omega) (by decide) (by decide) (by decide) (by decide) (by decide) (by decide) (by decide) (by decide), fun k a => fld k (by omega) (by omega) (by omega) (by omega) (by omega) (by omega) (by omega)⟩ (h.2.2.2.2.1.fr (by rw [low 0 (by omega) (by decide) (by decide) (by decide) (by decide) (by decide) (by decide) (by decide) (by decide)]) (low 185 (by omega) (by decide) (by decide) (by decide) (by decide) (by decide) (by decide) (by decide) (by decide)) (fld 25 (by decide) (by decide) (by decide) (by decide) (by decide) (by decide) (by decide)) (low 197 (by omega) (by decide) (by decide) (by decide) (by decide) (by decide) (by decide) (by decide) (by decide))) (h.2.2.2.2.2.1.fr (by rw [low 0 (by omega) (by decide) (by decide) (by decide) (by decide) (by decide) (by decide) (by decide) (by decide)]) (low 187 (by omega) (by decide) (by decide) (by decide) (by decide) (by decide) (by decide) (by decide) (by decide)) (fld 32 (by decide) (by decide) (by decide) (by decide) (by decide) (by decide) (by decide)) (low 201 (by omega) (by decide) (by decide) (by decide) (by decide) (by decide) (by decide) (by decide) (by decide))) w ?_ ?_ ?_ ?_ ?_ ?_
  · rw [z2 7 (by decide) (by decide) (by decide) (by decide), zH_o _ _ _ _ _ _ _ (by decide) (by decide) (by decide), x1 7 (by omega) (by decide), xo 7 (by decide) (by decide)]
    exact tkn_7 I n
  · rw [zk 1 (by decide)]; exact z1.1
  · rw [z2 67 (by decide) (by decide) (by decide) (by decide), zH_o _ _ _ _ _ _ _ (by decide) (by decide) (by decide), x1 67 (by omega) (by decide)]
  · intro a ha
    rw [z2 a (by omega) (by omega) (by omega) (by omega), zH_o _ _ _ _ _ _ _ (by omega) (by omega) (by omega), x1 a (by omega) (by omega)]
  · rw [zk 28 (by decide)]; exact z1.2.2.2.2
  · rw [zk 29 (by decide)]; exact z1.2.2.2.1
  · intro k hk
    rw [e199, za.1 k hk, i194]
  · intro s k _ hs hk
    rw [e199, za.2 s k hs hk, i199]
/-- the world of a told state, and what keep makes of it behind a path -/
theorem Told.pre {I : MI} {J : MJ} {T B0 n : Nat} (h : St I J T B0) (h30 : T + 10001 ≤ 1000000000) (td : Told I J T B0) : ∃ vol p q nn t X J1, I 188 11 = nI vol ∧ ¬ bz (I 188 13) = 0 ∧ (I 188 29 = nI p ∧ p < 20 ∧ I 188 28 = nI q ∧ q ≤ 20) ∧ ¬ I 1 6 ≤ 0 ∧ Inv (vw 6 I 1) (vw 12 I 17) (vw 1 I 29) (wks I 31) nn vol t T (fun _ => 0) ∧ CntI (vw 12 I 17) ∧ Rel none (vw 6 I 1) (vw 12 I 17) (vw 1 I 29) (wks I 31) (I 194) nn ∧ M_X0_keep [mR (some 67), mR (some 16)] (tkn I n, J) = some (none, (X, J1)) ∧ KpF (tkn I n) J p q vol T B0 (I 194) X J1 ∧ (vw 6 X 1 = vw 6 I 1 ∧ vw 12 X 17 = vw 12 I 17 ∧ vw 1 X 29 = vw 1 I 29 ∧ (∀ x, 31 ≤ x → x < 55 → X x = I x) ∧ vw 2 X 158 = vw 2 (tkn I n) 158 ∧ vw 2 X 160 = vw 2 (tkn I n) 160 ∧ X 16 = I 16) := by
  obtain ⟨vol, ad, p, q, h1, h2, w, hs⟩ := td
  have ww := w
  obtain ⟨nn, t, i, c, r⟩ := w
  have o : ∀ x, x ≠ 7 → (x < 158 ∨ 183 ≤ x) → tkn I n x = I x := fun x a b => tkn_o I n a b
  have w' : Wd (tkn I n) 1 17 29 31 (I 194) vol T := ww.fr (fun x _ _ => o x (by omega) (by omega)) (fun x _ _ => o x (by omega) (by omega)) (o 29 (by decide) (by decide)) (fun x _ _ => o x (by omega) (by omega)) (fun _ _ => rfl)
  have hs' : His (tkn I n) J ad p q vol T B0 := hs.fr (o 67 (by decide) (by decide)) (by rw [o 188 (by decide) (by decide)]) (by rw [o 188 (by decide) (by decide)]) (o 199 (by decide) (by decide)) (fun a _ => o a (by omega) (by omega)) (Nat.le_refl _) (by omega)
  obtain ⟨X, J1, k1, k2⟩ := hs'.keep h.1.1 h.1.2 w'
  have xo : ∀ x, x < 158 → x ≠ 67 → x ≠ 7 → X x = I x := fun x a b d => by rw [k2.2.2.2.1 x (by omega) b, o x d (by omega)]
  refine ⟨vol, p, q, nn, t, X, J1, h1, h2, ⟨hs.2.1.2, hs.1.2.1, hs.2.1.1, hs.1.2.2.2⟩, ?_, i, c, r, k1, k2, vw_fr (fun x _ _ => xo x (by omega) (by omega) (by omega)), vw_fr (fun x _ _ => xo x (by omega) (by omega) (by omega)), vw_fr (fun x _ _ => xo x (by omega) (by omega) (by omega)), fun x _ _ => xo x (by omega) (by omega) (by omega), vw_fr (fun x _ _ => k2.2.2.2.1 x (by omega) (by omega)), vw_fr (fun x _ _ => k2.2.2.2.1 x (by omega) (by omega)), xo 16 (by decide) (by decide) (by decide)⟩
  have := i.N.vs
  have v := i.N.v3
  show ¬ vw 6 I 1 0 6 ≤ 0
  rw [this]
  exact nI_nle v.1 (by omega)
theorem vw_r {N : Nat} (I : MI) (D G : RowV) (c : Int32) {a : Nat} (h : a + N ≤ 188) : vw N (rF I D G c) a = vw N I a := vw_fr (fun x _ _ => rF_o _ _ _ _ (by omega) (by omega) (by omega))
theorem P_look {I : MI} {J : MJ} {T B0 : Nat} (h : St I J T B0) (h30 : T + 10001 ≤ 1000000000) : Pair I J T B0 (M_X9_look [mR (some 0)]) (M_X10_look [mR (some 188)]) := by
  obtain ⟨n, t1, t2, t3⟩ := h.2.1
  have T4 := t1.1
  by_cases hy : (rowO I n).1 = 1
  · rcases h.2.2.2.2.2.2.2.2.2 with td | u
    · obtain ⟨vol, p, q, nn, t, X, J1, hv, htd, ⟨hp, p20, hq, q20⟩, h6, i, c, r, k1, kf, e1, e2, e3, e4, e5, _, _⟩ := td.pre (n := n) h h30
      have uE := u_look h.1.1 I T4 t1.2.1 hy k1 kf.1
      obtain ⟨kl, rl, _, xo, _⟩ := kf
      have kf : KpF (tkn I n) J p q vol T B0 (I 194) X J1 := ⟨kl, rl, ‹_›, xo, ‹_›⟩
      rw [e1, e2] at uE
      generalize hV' : gV_X1_walk 12 (vw 2 X 158) (vw 6 I 1) (vw 12 I 17) (X 158 1) = V' at uE
      have x1 : ∀ x, (7 ≤ x ∧ x < 17) ∨ 55 ≤ x ∨ x = 0 → x ≠ 186 → pt X 17 V' x = X x := fun x a _ => pt_out (by omega)
      have lowX : ∀ x, 188 ≤ x → x < 208 → pt X 17 V' x = I x := fun x a b => by rw [x1 x (by omega) (by omega), xo x (by omega) (by omega), tkn_o _ _ (by omega) (by omega)]
      obtain ⟨p', l', S', g1, g2, l12, pth⟩ := ref_pre (I1 := pt X 17 V') rl t1 t2 t3 hy h6 (lowX 188 (by decide) (by decide)) (lowX 189 (by decide) (by decide)) hp p20 hq q20
      generalize hI1 : pt X 17 V' = I1 at uE x1 lowX g1 g2
      have z1 := zH_1 I1 n p' l' S' ((p + 1) % 20) (min (q + 1) 20)
      have zo := fun x a b c => zH_o I1 n p' l' S' ((p + 1) % 20) (min (q + 1) 20) (x := x) a b c
      have zk := fun k a b c d e f => zH_k I1 n p' l' S' ((p + 1) % 20) (min (q + 1) 20) (k := k) a b c d e f
      have f13 : pF (bgP I1 n) (nI p') (nI l') S' 188 13 = I 188 13 := by rw [pF_k _ _ _ _ (by decide) (by decide), bgP_k _ _ (by decide) (by decide) (by decide), lowX 188 (by decide) (by decide)]
      generalize hZ : zH I1 n p' l' S' ((p + 1) % 20) (min (q + 1) 20) = Z at g2 z1 zo zk
      have zD : Z 194 = I 194 := by rw [zo 194 (by decide) (by decide) (by decide), lowX 194 (by decide) (by decide)]
      have s8 := h.2.2.2.2.2.2.2.2.1
      have z20 : Z 188 20 = -1 := by rw [zk 20 (by decide) (by decide) (by decide) (by decide) (by decide) (by decide), lowX 188 (by decide) (by decide)]; exact s8.1
      have z21 : Z 188 21 = -1 := by rw [zk 21 (by decide) (by decide) (by decide) (by decide) (by decide) (by decide), lowX 188 (by decide) (by decide)]; exact s8.2
      have pX : vw 2 X 158 0 1 = nI l' := by rw [e5]; exact pth.1
      have x158 : X 158 1 = nI l' := pX
      have i2 := i.T (show T ≤ T + 10001 by omega) h30
      have tT := i.Z.tT
      obtain ⟨D', G', c', how, t', w1, w2, w3, w4, w5⟩ := r.walks i2 c (fun e _ z => absurd rfl z) rl Z (by rw [z20]; exact Or.inl ⟨rfl, fun _ => rfl⟩) z21 (Z 195) (Z 188 22) rl.s14 (by decide) (P := vw 2 X 158) (lp := l') (m := l') (L := 12) pX (Nat.le_refl _) l12 (by decide) (by omega) (fun k hk => by rw [z1.2.2.1, e5]; exact pth.2 k hk) (X 158 1) (by rw [x158, ix_nI (by omega)]) (by omega)
      rw [← zD, rF_id] at w1
      rw [hV'] at w2 w5
      have wd : Wd (rF Z D' G' c') 1 17 29 31 (rF Z D' G' c' 194) vol (T + 10001) := by
        have q1 : vw 6 (rF Z D' G' c') 1 = vw 6 I 1 := by
          rw [vw_r _ _ _ _ (by decide), ← e1]
          exact vw_fr (fun x _ _ => by rw [zo x (by omega) (by omega) (by omega), ← hI1, pt_out (by omega)])
        have q2 : vw 12 (rF Z D' G' c') 17 = V' := by
          rw [vw_r _ _ _ _ (by decide), vw_fr (I := I1) (fun x _ _ => zo x (by omega) (by omega) (by omega)), ← hI1, vw_pt]
        have q3 : vw 1 (rF Z D' G' c') 29 = vw 1 I 29 := by
          rw [vw_r _ _ _ _ (by decide), ← e3]
          exact vw_fr (fun x _ _ => by rw [zo x (by omega) (by omega) (by omega), ← hI1, pt_out (by omega)])
        have q4 : ∀ x, 31 ≤ x → x < 31 + 24 → rF Z D' G' c' x = I x := fun x a b => by
          rw [rF_o _ _ _ _ (by omega) (by omega) (by omega), zo x (by omega) (by omega) (by omega), ← hI1, pt_out (by omega), e4 x a (by omega)]
        have q5 : ∀ k, k < 4 → WkEq (wks (rF Z D' G' c') 31 k) (wks I 31 k) := fun k hk => by rw [wks_fr q4 hk]; exact WkEq.refl _
        refine ⟨nn, t', ?_, ?_, ?_⟩
        · rw [q1, q2, q3]
          exact w2.2.1.cg (UEq.refl _) (VEq.refl _) (fun _ _ => rfl) q5
        · rw [q2]; exact w2.2.2.1
        · rw [q1, q2, q3, rF_D]
          exact w2.1.cg i.N.n60 (UEq.refl _) (VEq.refl _) (fun _ _ => rfl) q5 (fun _ _ => rfl)
      have fin : St (rF Z D' G' c') J1 (T + 10001) B0 := by
        refine h.fin h30 hv htd kf x1 (n := n) (p' := p') (l' := l') (S' := S') (fun x a b d e => ?_) (fun k a => ?_) ?_ wd
        · rw [hZ, rF_o _ _ _ _ a d e]
        · rw [hZ, rF_k _ _ _ _ a]
        · refine h.2.2.2.1.fr ?_ ?_
          · rw [rF_o _ _ _ _ (by decide) (by decide) (by decide), zo 186 (by decide) (by decide) (by decide), ← hI1, pt_out (by decide), xo 186 (by decide) (by decide), tkn_o _ _ (by decide) (by decide)]
          · rw [rF_o _ _ _ _ (by decide) (by decide) (by decide), zo 190 (by decide) (by decide) (by decide), lowX 190 (by decide) (by decide)]
      have wE : ∀ v, v = (if how = 0 then c' else how) → M_X10_look [mR (some 188)] (I1, J1) = some (some (mI v), (rF Z D' G' c', J1)) := by
        intro v hvv
        rw [E_X10_look]
        simp only [rl.kt, if_true, g1, Option.bind_some, asI_I, if_neg i10, rl.fz, f13, if_neg htd, g2, asV_n, rl.f14, rl.fi, z1.2.1, w1]
        rw [hvv]
        by_cases z : how = 0
        · rw [if_pos z, if_pos z, rF_c]
        · rw [if_neg z, if_neg z]
      refine ⟨_, _, _, J1, uE, ?_, fin⟩
      apply wE
      rcases w5 with ⟨a1, a', a2, a3, _⟩ | ⟨a1, a2⟩ | ⟨a1, a2⟩
      · rw [if_pos a1, a2]; exact a3
      · rw [a1, if_neg (by decide)]; exact a2
      · rw [a1, if_neg (by decide)]; exact a2
    · refine absurd hy ?_
      unfold rowO
      rw [if_pos (by rw [u.2.2.1.2.1]; exact Int32.le_refl _)]
      exact (by decide : ¬ (-1 : Int32) = 1)
  · exact Pair.path_no h h30 t1 t2 t3 hy (by decide) (u_look_no h.1.1 I T4 t1.2.1 hy) Rfs.look
end
section
/-! What every act begins with, once for all. -/
def WF (I X : MI) : Prop := vw 6 X 1 = vw 6 I 1 ∧ vw 12 X 17 = vw 12 I 17 ∧ vw 1 X 29 = vw 1 I 29 ∧ (∀ x, 31 ≤ x → x < 55 → X x = I x) ∧ X 16 = I 16
def ZF (I I1 Z : MI) : Prop := Z 194 = I 194 ∧ Z 188 20 = -1 ∧ Z 188 21 = -1 ∧ (∀ x, x < 188 → Z x = I1 x) ∧ Z 190 = I 190 ∧ Z 193 = I1 193 ∧ Z 188 11 = I 188 11 ∧ ¬ bz (Z 188 13) = 0
theorem act_pre {I : MI} {J : MJ} {T B0 n : Nat} (h : St I J T B0) (h30 : T + 10001 ≤ 1000000000) (td : Told I J T B0) (t1 : Tap (vw 2 I 7) n) (t2 : I 188 1 = nI n) (t3 : ∀ k, k < n → I 189 k = I 8 k) (hy : (rowO I n).1 = 1) : ∃ vol nn t X J1, I 188 11 = nI vol ∧ Inv (vw 6 I 1) (vw 12 I 17) (vw 1 I 29) (wks I 31) nn vol t T (fun _ => 0) ∧ CntI (vw 12 I 17) ∧ Rel none (vw 6 I 1) (vw 12 I 17) (vw 1 I 29) (wks I 31) (I 194) nn ∧ M_X0_keep [mR (some 67), mR (some 16)] (tkn I n, J) = some (none, (X, J1)) ∧ KL J1 ∧ RefL J1 ∧ WF I X ∧ X 186 = I 186 ∧ ∀ I1, (∀ x, (7 ≤ x ∧ x < 17) ∨ 55 ≤ x ∨ x = 0 → x ≠ 186 → I1 x = X x) → ∃ Z Y1 l', M_X10_isPath [mR (some 188)] (I1, J1) = some (some (mI 1), (Y1, J1)) ∧ (∀ k, k ≠ 1 → k ≠ 2 → k ≠ 3 → k ≠ 15 → Y1 188 k = I 188 k) ∧ Y1 194 = I 194 ∧ M_X10_keeps [mR (some 188)] (Y1, J1) = some (none, (Z, J1)) ∧ l' ≤ 12 ∧ Pth (vw 2 X 158) (Z 192) l' ∧ X 158 1 = nI l' ∧ Z 188 15 = nI l' ∧ ZF I I1 Z ∧ ∀ I2, (∀ x, x ≠ 188 → x ≠ 190 → x ≠ 194 → x ≠ 195 → I2 x = Z x) → (∀ k, k ≠ 22 → I2 188 k = Z 188 k) → S3 I2 → Wd I2 1 17 29 31 (I2 194) vol (T + 10001) → St I2 J1 (T + 10001) B0 := by
  obtain ⟨vol, p, q, nn, t, X, J1, hv, htd, ⟨hp, p20, hq, q20⟩, h6, i, c, r, k1, kf, e1, e2, e3, e4, e5, _, e16⟩ := td.pre (n := n) h h30
  have xo := kf.2.2.2.1
  refine ⟨vol, nn, t, X, J1, hv, i, c, r, k1, kf.1, kf.2.1, ⟨e1, e2, e3, e4, e16⟩, by rw [xo 186 (by decide) (by decide), tkn_o _ _ (by decide) (by decide)], fun I1 x1 => ?_⟩
  have lowX : ∀ x, 188 ≤ x → x < 208 → I1 x = I x := fun x a b => by rw [x1 x (by omega) (by omega), xo x (by omega) (by omega), tkn_o _ _ (by omega) (by omega)]
  obtain ⟨p', l', S', g1, g2, l12, pth⟩ := ref_pre (I1 := I1) kf.2.1 t1 t2 t3 hy h6 (lowX 188 (by decide) (by decide)) (lowX 189 (by decide) (by decide)) hp p20 hq q20
  have z1 := zH_1 I1 n p' l' S' ((p + 1) % 20) (min (q + 1) 20)
  have zo := fun x a b c => zH_o I1 n p' l' S' ((p + 1) % 20) (min (q + 1) 20) (x := x) a b c
  have zk := fun k a b c d e f => zH_k I1 n p' l' S' ((p + 1) % 20) (min (q + 1) 20) (k := k) a b c d e f
  have s8 := h.2.2.2.2.2.2.2.2.1
  have zk' : ∀ k, k ≠ 1 → k ≠ 2 → k ≠ 3 → k ≠ 15 → k ≠ 28 → k ≠ 29 → zH I1 n p' l' S' ((p + 1) % 20) (min (q + 1) 20) 188 k = I 188 k := fun k a b c d e f => by rw [zk k a b c d e f, lowX 188 (by decide) (by decide)]
  refine ⟨_, _, l', g1, fun k a b c d => ?_, ?_, g2, l12, by rw [e5, z1.2.2.1]; exact pth, by have := pth.1; rw [← e5] at this; exact this, z1.2.1, ⟨?_, ?_, ?_, fun x a => zo x (by omega) (by omega) (by omega), ?_, zo 193 (by decide) (by decide) (by decide), ?_, ?_⟩, fun I2 a b s3 w => h.fin h30 hv htd kf x1 (p' := p') (l' := l') (S' := S') a b s3 w⟩
  · rw [pF_k _ _ _ _ b d, bgP_k _ _ a b c, lowX 188 (by decide) (by decide)]
  · rw [pF_o _ _ _ _ (by decide) (by decide), bgP_o _ _ (by decide), lowX 194 (by decide) (by decide)]
  · rw [zo 194 (by decide) (by decide) (by decide), lowX 194 (by decide) (by decide)]
  · rw [zk' 20 (by decide) (by decide) (by decide) (by decide) (by decide) (by decide)]; exact s8.1
  · rw [zk' 21 (by decide) (by decide) (by decide) (by decide) (by decide) (by decide)]; exact s8.2
  · rw [zo 190 (by decide) (by decide) (by decide), lowX 190 (by decide) (by decide)]
  · exact zk' 11 (by decide) (by decide) (by decide) (by decide) (by decide) (by decide)
  · rw [zk' 13 (by decide) (by decide) (by decide) (by decide) (by decide) (by decide)]; exact htd
/-- the same for an act without a path -/
theorem act_pre0 {I : MI} {J : MJ} {T B0 : Nat} (h : St I J T B0) (h30 : T + 10001 ≤ 1000000000) (td : Told I J T B0) : ∃ vol nn t X J1, I 188 11 = nI vol ∧ Inv (vw 6 I 1) (vw 12 I 17) (vw 1 I 29) (wks I 31) nn vol t T (fun _ => 0) ∧ CntI (vw 12 I 17) ∧ Rel none (vw 6 I 1) (vw 12 I 17) (vw 1 I 29) (wks I 31) (I 194) nn ∧ M_X0_keep [mR (some 67), mR (some 16)] (I, J) = some (none, (X, J1)) ∧ KL J1 ∧ RefL J1 ∧ WF I X ∧ (∀ x, x < 208 → x ≠ 67 → X x = I x) ∧ S6 J1 ∧ (∀ a, a < 208 → J1.1 a = J.1 a) ∧ ∀ I1, (∀ x, (7 ≤ x ∧ x < 17) ∨ (55 ≤ x ∧ x ≠ 183 ∧ x ≠ 184) → x ≠ 186 → x ≠ 187 → I1 x = X x) → I1 0 11 = I 0 11 → ∃ Z, M_X10_keeps [mR (some 188)] (I1, J1) = some (none, (Z, J1)) ∧ ZF I I1 Z ∧ (∀ x, x ≠ 188 → x ≠ 199 → Z x = I1 x) ∧ (∀ k, k ≠ 28 → k ≠ 29 → Z 188 k = I 188 k) ∧ ∀ I2 J2, (∀ x, x ≠ 188 → x ≠ 190 → x ≠ 192 → x ≠ 194 → x ≠ 195 → x ≠ 198 → x ≠ 201 → x ≠ 200 → I2 x = Z x) → (∀ k, k ≠ 15 → k ≠ 22 → k ≠ 32 → I2 188 k = Z 188 k) → S3 I2 → S5 I2 → Wd I2 1 17 29 31 (I2 194) vol (T + 10001) → S6 J2 → J2.2 = J1.2 → St I2 J2 (T + 10001) B0 := by
  obtain ⟨vol, ad, p, q, hv, htd, w, hs⟩ := td
  have ww := w
  obtain ⟨nn, t, i, c, r⟩ := w
  obtain ⟨X, J1, k1, kf⟩ := hs.keep h.1.1 h.1.2 ww
  have xo := kf.2.2.2.1
  refine ⟨vol, nn, t, X, J1, hv, i, c, r, k1, kf.1, kf.2.1, ⟨vw_fr (fun x _ _ => xo x (by omega) (by omega)), vw_fr (fun x _ _ => xo x (by omega) (by omega)), vw_fr (fun x _ _ => xo x (by omega) (by omega)), fun x _ _ => xo x (by omega) (by omega), xo 16 (by decide) (by decide)⟩, xo, h.2.2.2.2.2.2.1.fr (kf.2.2.1 0 (by decide)) (kf.2.2.1 188 (by decide)), kf.2.2.1, fun I1 x1 x0 => ?_⟩
  have lowX : ∀ x, 188 ≤ x → x < 208 → I1 x = I x := fun x a b => by rw [x1 x (by omega) (by omega) (by omega), xo x (by omega) (by omega)]
  have hk := w_keeps (J := J1) kf.2.1 I1 (p := p) (q := q) (by rw [lowX 188 (by decide) (by decide)]; exact hs.2.1.2) hs.1.2.1 (by rw [lowX 188 (by decide) (by decide)]; exact hs.2.1.1) hs.1.2.2.2
  have zo := fun x a b => kpR_o I1 ((p + 1) % 20) (min (q + 1) 20) (x := x) a b
  have zk' : ∀ k, k ≠ 28 → k ≠ 29 → kpR I1 ((p + 1) % 20) (min (q + 1) 20) 188 k = I 188 k := fun k a b => by rw [kpR_k _ _ _ a b, lowX 188 (by decide) (by decide)]
  have s8 := h.2.2.2.2.2.2.2.2.1
  have za := kpR_a I1 ((p + 1) % 20) (min (q + 1) 20)
  have zz := kpR_29 I1 ((p + 1) % 20) (min (q + 1) 20)
  refine ⟨_, hk, ⟨?_, ?_, ?_, fun x a => zo x (by omega) (by omega), ?_, zo 193 (by decide) (by decide), zk' 11 (by decide) (by decide), ?_⟩, zo, zk', fun I2 J2 a b s3 s5 w s6 j2 => ?_⟩
  · rw [zo 194 (by decide) (by decide), lowX 194 (by decide) (by decide)]
  · rw [zk' 20 (by decide) (by decide)]; exact s8.1
  · rw [zk' 21 (by decide) (by decide)]; exact s8.2
  · rw [zo 190 (by decide) (by decide), lowX 190 (by decide) (by decide)]
  · rw [zk' 13 (by decide) (by decide)]; exact htd
  · generalize hZ : kpR I1 ((p + 1) % 20) (min (q + 1) 20) = Z at a b zo zk' za zz
    have low : ∀ x, (7 ≤ x ∧ x < 17) ∨ (55 ≤ x ∧ x ≠ 183 ∧ x ≠ 184) → x < 208 → x ≠ 67 → x ≠ 186 → x ≠ 187 → x ≠ 188 → x ≠ 190 → x ≠ 192 → x ≠ 194 → x ≠ 195 → x ≠ 198 → x ≠ 201 → x ≠ 200 → x ≠ 199 → I2 x = I x := fun x h1 h2 h3 h4 h5 h6 h7 h8 h9 h10 h11 h12 h12' h13 => by
      rw [a x h6 h7 h8 h9 h10 h11 h12 h12', zo x h6 h13, x1 x h1 h4 h5, xo x (by omega) h3]
    have fld : ∀ k, k ≠ 15 → k ≠ 22 → k ≠ 32 → k ≠ 28 → k ≠ 29 → I2 188 k = I 188 k := fun k a1 a2 a3 a4 a5 => by rw [b k a1 a2 a3, zk' k a4 a5]
    have e199 : I2 199 = Z 199 := a 199 (by decide) (by decide) (by decide) (by decide) (by decide) (by decide) (by decide) (by decide)
    have i0 : I2 0 11 = I 0 11 := by rw [a 0 (by decide) (by decide) (by decide) (by decide) (by decide) (by decide) (by decide) (by decide), zo 0 (by decide) (by decide)]; exact x0
    have s1 : S1 I2 := h.2.1.fr (low 7 (by omega) (by decide) (by decide) (by decide) (by decide) (by decide) (by decide) (by decide) (by decide) (by decide) (by decide) (by decide) (by decide) (by decide)) (low 8 (by omega) (by decide) (by decide) (by decide) (by decide) (by decide) (by decide) (by decide) (by decide) (by decide) (by decide) (by decide) (by decide) (by decide)) (fld 1 (by decide) (by decide) (by decide) (by decide) (by decide)) (low 189 (by omega) (by decide) (by decide) (by decide) (by decide) (by decide) (by decide) (by decide) (by decide) (by decide) (by decide) (by decide) (by decide) (by decide))
    have base : St I2 J1 (T + 10001) B0 := by
      refine h.act h30 hv htd kf rfl s1 s3 ⟨low 9 (by omega) (by decide) (by decide) (by decide) (by decide) (by decide) (by decide) (by decide) (by decide) (by decide) (by decide) (by decide) (by decide) (by decide), low 69 (by omega) (by decide) (by decide) (by decide) (by decide) (by decide) (by decide) (by decide) (by decide) (by decide) (by decide) (by decide) (by decide) (by decide), fun x a b => low x (by omega) (by omega) (by omega) (by omega) (by omega) (by omega) (by omega) (by omega) (by omega) (by omega) (by omega) (by omega) (by omega) (by omega), low 202 (by omega) (by decide) (by decide) (by decide) (by decide) (by decide) (by decide) (by decide) (by decide) (by decide) (by decide) (by decide) (by decide) (by decide), low 203 (by omega) (by decide) (by decide) (by decide) (by decide) (by decide) (by decide) (by decide) (by decide) (by decide) (by decide) (by decide) (by decide) (by decide), fun k a => fld k (by omega) (by omega) (by omega) (by omega) (by omega)⟩ (h.2.2.2.2.1.fr i0 (low 185 (by omega) (by decide) (by decide) (by decide) (by decide) (by decide) (by decide) (by decide) (by decide) (by decide) (by decide) (by decide) (by decide) (by decide)) (fld 25 (by decide) (by decide) (by decide) (by decide) (by decide)) (low 197 (by omega) (by decide) (by decide) (by decide) (by decide) (by decide) (by decide) (by decide) (by decide) (by decide) (by decide) (by decide) (by decide) (by decide))) s5 w ?_ ?_ ?_ ?_ ?_ ?_
      · rw [a 67 (by decide) (by decide) (by decide) (by decide) (by decide) (by decide) (by decide) (by decide), zo 67 (by decide) (by decide), x1 67 (by omega) (by decide) (by decide)]
      · intro y hy
        rw [a y (by omega) (by omega) (by omega) (by omega) (by omega) (by omega) (by omega) (by omega), zo y (by omega) (by omega), x1 y (by omega) (by omega) (by omega)]
      · rw [b 28 (by decide) (by decide) (by decide)]; exact zz.2
      · rw [b 29 (by decide) (by decide) (by decide)]; exact zz.1
      · intro k hk
        rw [e199, za.1 k hk, lowX 194 (by decide) (by decide)]
      · intro s k _ hs hk
        rw [e199, za.2 s k hs hk, lowX 199 (by decide) (by decide)]
    obtain ⟨b1, b2, b3, b4, b5, b6, b7, b8, b9, b10⟩ := base
    have jr : jR J2 = jR J1 := by show J2.2.1 = J1.2.1; rw [j2]
    have js : jS J2 = jS J1 := by show J2.2.2.1 = J1.2.2.1; rw [j2]
    have jc : jC J2 = jC J1 := by show J2.2.2.2.1 = J1.2.2.2.1; rw [j2]
    have jb : jB J2 = jB J1 := by show J2.2.2.2.2 = J1.2.2.2.2; rw [j2]
    refine ⟨⟨b1.1.gx (fun x _ _ => ⟨by rw [jr], by rw [js]⟩) (by rw [js]), b1.2.gx (fun x _ _ => ⟨by rw [jr], by rw [js]⟩)⟩, b2, b3, b4, b5, b6, s6, b8, b9, ?_⟩
    rcases b10 with td | u
    · exact Or.inl (td.fr (Or.inr ⟨fun a b => by rw [jr], js, jc, jb⟩) (fun _ _ _ _ _ => rfl) rfl (fun _ _ => rfl) (fun _ _ => rfl) (fun _ _ => rfl) rfl (Nat.le_refl _) h30)
    · exact Or.inr (u.fr ⟨fun a b => by rw [jr], js, jc, jb⟩ (fun _ _ _ _ _ => rfl) rfl ⟨rfl, rfl⟩ (fun _ _ => rfl) (fun _ _ => rfl) rfl (Nat.le_refl _) h30)
end
section
/-! Holding and letting go. -/
def dlx (x : Nat → Nat) (e : Nat) : Nat → Nat := fun f => x f + if f = e then 1 else 0
theorem Inv.h5 {U : NodV} {V V' : MemV} {H H' : OneV} {W W' : WkV} {n vol t T : Nat} {x x' : Nat → Nat} (i : Inv U V H W n vol t T x) (k : ∀ r : Fin 12, r ≠ 0 → r ≠ 5 → V' r = V r) (k0 : V' 0 11 = V 0 11 ∧ V' 0 12 = V 0 12 ∧ V' 0 14 = V 0 14) (hL : HelI V' H' W' x') (hH : HanI V H') (hW : WalI V W' t T) : Inv U V' H' W' n vol t T x' := by
  refine ⟨i.N, ?_, ?_, hL, ?_, ?_⟩
  · have := i.M
    unfold MemI at this ⊢
    rw [k 1 (by decide) (by decide), k 2 (by decide) (by decide), k 3 (by decide) (by decide), k 4 (by decide) (by decide), k 9 (by decide) (by decide), k 10 (by decide) (by decide)]
    exact this
  · obtain ⟨z1, z2, z3, z4, z5, z6, z7⟩ := i.Z
    exact ⟨by rw [k0.2.1]; exact z1, z2, z3, by rw [k 1 (by decide) (by decide), k 8 (by decide) (by decide)]; exact z4, by rw [k 1 (by decide) (by decide), k 6 (by decide) (by decide)]; exact z5, by rw [k0.1]; exact z6, z7.le k0.2.2 (fun j _ q => by rw [k 1 (by decide) (by decide)] at q; exact q) (Nat.le_refl _)⟩
  · unfold HanI at hH ⊢
    rw [k 1 (by decide) (by decide), k 4 (by decide) (by decide)]
    exact hH
  · intro j hj q
    obtain ⟨m, d, l, r, hr, hw⟩ := hW j hj q
    exact ⟨m, d, l, r, hr, hw.fr (k 1 (by decide) (by decide)) (k 4 (by decide) (by decide)) (k 6 (by decide) (by decide)) (k 8 (by decide) (by decide)) (Nat.le_refl _) (Nat.le_refl _)⟩
theorem Inv.hold {U : NodV} {V : MemV} {H : OneV} {W : WkV} {n vol t T : Nat} {x : Nat → Nat} (i : Inv U V H W n vol t T x) {e : Nat} (he : e < 64) (h1 : ¬ V 1 e = 0) (xb : x e < 100) : Inv U (gV_X1_hold V (nI e)) H W n vol t T (dlx x e) := by
  have k := ho_k V (nI e)
  refine i.h5 (fun r _ h => k r h) ⟨by rw [k 0 (by decide)], by rw [k 0 (by decide)], by rw [k 0 (by decide)]⟩ ?_ i.H i.W
  intro f hf
  have hL := i.L f hf
  rw [k 1 (by decide), ho_5 V he, hc_fr (k 1 (by decide)) (k 2 (by decide)) (k 10 (by decide))]
  unfold dlx
  by_cases z : f = e
  · subst z
    rw [if_pos rfl, if_pos rfl]
    refine ⟨fun q => absurd q h1, by omega, fun q => ⟨?_, fun _ => by omega⟩⟩
    rw [(hL.2.2 h1).1, nI_1, Nat.add_assoc]
  · rw [if_neg z, if_neg z, Nat.add_zero]
    exact hL
/-- a gone entry that nobody holds vanishes -/
theorem Inv.vanish {U : NodV} {V V' : MemV} {H : OneV} {W : WkV} {n vol t T : Nat} {x : Nat → Nat} (h : Inv U V H W n vol t T x) {e : Nat} (e64 : e < 64) (e1 : V 1 e = 2) (hz : hc V H W e = 0) {y : Nat → Nat} (hx : ∀ f, y f = if f = e then 0 else x f) (a1 : ∀ j, V' 1 j = if j = e then 0 else V 1 j) (a5 : ∀ j, j ≠ e → V' 5 j = V 5 j) (k : ∀ r : Fin 12, r ≠ 1 → r ≠ 5 → V' r = V r) : Inv U V' H W n vol t T y := by
  have hN := h.N
  have hM := h.M
  obtain ⟨e2, _⟩ := hM.go e e64 e1
  obtain ⟨z1, z2, z3, z4⟩ := hc_z hz
  have a2 := k 2 (by decide) (by decide)
  have a3 := k 3 (by decide) (by decide)
  have a4 := k 4 (by decide) (by decide)
  have a6 := k 6 (by decide) (by decide)
  have a8 := k 8 (by decide) (by decide)
  have a9 := k 9 (by decide) (by decide)
  have a10 := k 10 (by decide) (by decide)
  have a0 := k 0 (by decide) (by decide)
  have back : ∀ {f : Nat} {y : Int32}, ¬ y = 0 → V' 1 f = y → f ≠ e ∧ V 1 f = y := fun {f y} q1 q2 => by
    rw [a1] at q2
    by_cases w : f = e
    · rw [if_pos w] at q2
      exact absurd q2.symm q1
    · rw [if_neg w] at q2
      exact ⟨w, q2⟩
  have back0 : ∀ {f : Nat}, ¬ V' 1 f = 0 → f ≠ e ∧ ¬ V 1 f = 0 := fun {f} q2 => by
    rw [a1] at q2
    by_cases w : f = e
    · rw [if_pos w] at q2
      exact absurd rfl q2
    · rw [if_neg w] at q2
      exact ⟨w, q2⟩
  have n1 : ∀ {f}, V 1 f = 1 → f ≠ e := fun q1 q2 => by rw [q2, e1] at q1; exact absurd q1 (by decide)
  refine ⟨hN, ⟨?_, ?_, ?_, ?_, ?_, ?_, ?_, ?_, ?_, ?_, ?_, ?_⟩, ⟨?_, h.Z.tT, h.Z.T30, ?_, ?_, ?_⟩, ?_, ?_, ?_⟩
  · intro f hf
    rw [a1]
    split
    · exact Or.inl rfl
    · exact hM.st f hf
  · rw [a9]; exact hM.r0
  · rw [a10]; exact hM.o0
  · intro v hv
    rw [a9, a10, a2, a4]
    rcases hM.rt v hv with q | ⟨q1, r, r64, q2, q3, q4, q5⟩
    · exact Or.inl q
    · refine Or.inr ⟨q1, r, r64, q2, ?_, q4, q5⟩
      rw [a1, if_neg (n1 q3)]
      exact q3
  · intro v h1 hv
    rw [a9, a10, a2, a4]
    intro q
    obtain ⟨o, o64, w1, w2, w3, w4⟩ := hM.ov v h1 hv q
    refine ⟨o, o64, w1, ?_, w3, w4⟩
    rw [a1, if_neg (n1 w2)]
    exact w2
  · rw [a10]; exact hM.oi
  · rw [a10, a4]; exact hM.vr
  · intro f hf q1 q2
    rw [a9]
    rw [a2] at q2
    exact hM.ro f hf (back i10 q1).2 q2
  · intro f hf q1 q2
    rw [a2] at q2
    rw [a2, a3, a4]
    obtain ⟨w0, w1⟩ := back i10 q1
    obtain ⟨p', y1, y2, y3, y4, y5⟩ := hM.ch f hf w1 q2
    refine ⟨p', y1, y2, ?_, y4, y5⟩
    rw [a1, if_neg (n1 y3)]
    exact y3
  · intro f hf q1
    rw [a2, a4]
    exact hM.go f hf (back i20 q1).2
  · intro f g hf hg q1 q2
    rw [a2, a3]
    exact hM.sb f g hf hg (back i10 q1).2 (back i10 q2).2
  · intro f g hf hg q1 q2
    rw [a4]
    exact hM.nd f g hf hg (back0 q1).2 (back0 q2).2
  · rw [a0]; exact h.Z.tk
  · intro f hf q1
    rw [a8]
    exact h.Z.bi f hf (back0 q1).2
  · intro f hf q1
    rw [a6]
    exact h.Z.co f hf (back0 q1).2
  · exact ⟨by rw [a0]; exact h.Z.li, h.Z.tri.le (by rw [a0]) (fun k _ q => (back0 q).2) (Nat.le_refl _)⟩
  · have hcc : ∀ f, f < 64 → hc V' H W f = hc V H W f := by
      intro f hf
      have c1 : hcC V' f = hcC V f := cnt_cong (fun j _ _ => by
        rw [a1, a2]
        by_cases w : j = e
        · have : ¬ V 2 e = nI f := by rw [e2]; exact fun z => nI_m1 (show f < 2 ^ 31 by omega) z.symm
          rw [w]
          simp [this]
        · rw [if_neg w])
      unfold hc
      rw [c1, show hcV V' f = hcV V f by unfold hcV; rw [a10]]
    intro f hf
    have hL := h.L f hf
    rw [hcc f hf, hx]
    by_cases z : f = e
    · subst z
      rw [a1, if_pos rfl, if_pos rfl]
      exact ⟨fun _ => rfl, by omega, fun q => absurd rfl q⟩
    · rw [a1, a5 f z, if_neg z, if_neg z]
      exact hL
  · intro j hj
    rcases h.H j hj with z | ⟨f, f64, w1, w2, w3⟩
    · exact Or.inl z
    · refine Or.inr ⟨f, f64, w1, ?_, ?_⟩
      · rw [a1, if_neg (fun w => z3 j hj (by rw [← w]; exact w1))]; exact w2
      · rw [a4]; exact w3
  · intro j hj q
    obtain ⟨m, d, l, r, hr, hw⟩ := h.W j hj q
    have := hw.md
    have := hw.dl
    have := hw.l12
    refine ⟨m, d, l, r, hr, hw.m, hw.d, hw.l, hw.r, hw.m1, hw.md, hw.dl, hw.l12, hw.r3, fun b hb => ?_⟩
    obtain ⟨f, f64, g1, ⟨b1, c1, g2, g3, g4, g5, g6⟩, g7⟩ := (hw.wy b hb).ex
    refine ⟨f, f64, g1, ⟨b1, c1, g2, g3, g4, g5, ?_⟩, ?_⟩
    · intro q1 q2
      rw [a8] at q2
      obtain ⟨y1, y2⟩ := back0 q1
      rw [a6, a1, a4, if_neg y1]
      exact g6 y2 q2
    · intro q1
      have y := g7 q1
      have yne : f ≠ e := fun w => hcK_z hw.m (by omega) q q1 (z4 j hj) b hb (by rw [← w]; exact g1)
      rw [a1, a4, if_neg yne]
      exact y
theorem Inv.release {U : NodV} {V : MemV} {H : OneV} {W : WkV} {n vol t T : Nat} {x : Nat → Nat} {e : Nat} (i : Inv U V H W n vol t T (dlx x e)) (he : e < 64) (h1 : ¬ V 1 e = 0) : Inv U (gV_X1_release V (nI e)) H W n vol t T x ∧ ∀ f, gV_X1_release V (nI e) 1 f = if f = e ∧ V 1 e = 2 ∧ hc V H W e + x e = 0 then 0 else V 1 f := by
  have k := re_k V (nI e)
  have hl := i.hle e
  have hLe := i.L e he
  have xe : dlx x e e = x e + 1 := by unfold dlx; rw [if_pos rfl]
  have v5 : V 5 e - 1 = nI (hc V H W e + x e) := by
    rw [(hLe.2.2 h1).1, xe, show hc V H W e + (x e + 1) = (hc V H W e + x e) + 1 by omega, nI_pred]
  have xb : x e ≤ 100 := by have := hLe.2.1; rw [xe] at this; omega
  have p0 : (0 : Int32) < V 5 e - 1 ↔ 0 < hc V H W e + x e := by
    rw [v5]
    constructor
    · intro z
      rcases Nat.eq_zero_or_pos (hc V H W e + x e) with y | y
      · rw [y] at z; exact absurd z (by decide)
      · exact y
    · intro z
      rw [← nI_0]
      exact nI_lt z (by omega)
  have r1 : ∀ f, gV_X1_release V (nI e) 1 f = if f = e ∧ V 1 e = 2 ∧ hc V H W e + x e = 0 then 0 else V 1 f := fun f => by
    rw [re_1 V he]
    by_cases z : f = e ∧ V 1 e = 2 ∧ ¬ (0 : Int32) < V 5 e - 1
    · rw [if_pos z, if_pos ⟨z.1, z.2.1, by have := z.2.2; rw [p0] at this; omega⟩]
    · rw [if_neg z, if_neg (fun w => z ⟨w.1, w.2.1, by rw [p0]; omega⟩)]
  refine ⟨?_, r1⟩
  by_cases c : V 1 e = 2 ∧ hc V H W e + x e = 0
  · refine i.vanish he c.1 (by omega) (fun f => ?_) (fun j => ?_) (fun j hj => ?_) (fun r a b => k r a b)
    · unfold dlx
      by_cases z : f = e
      · rw [if_pos z, z]; omega
      · rw [if_neg z, if_neg z]; rfl
    · rw [r1]
      by_cases z : j = e
      · rw [if_pos ⟨z, c.1, c.2⟩, if_pos z]
      · rw [if_neg (fun w => z w.1), if_neg z]
    · rw [re_5 V he, if_neg hj]
  · have k1 : gV_X1_release V (nI e) 1 = V 1 := by
      funext f
      rw [r1, if_neg (fun w => c ⟨w.2.1, w.2.2⟩)]
    refine i.h5 (fun r a b => ?_) ⟨by rw [k 0 (by decide) (by decide)], by rw [k 0 (by decide) (by decide)], by rw [k 0 (by decide) (by decide)]⟩ ?_ i.H i.W
    · by_cases z : r = 1
      · subst z; exact k1
      · exact k r z b
    · intro f hf
      have hL := i.L f hf
      rw [k1, re_5 V he, hc_fr k1 (k 2 (by decide) (by decide)) (k 10 (by decide) (by decide))]
      by_cases z : f = e
      · subst z
        rw [if_pos rfl, v5]
        refine ⟨fun q => absurd q h1, xb, fun q => ⟨rfl, fun w => ?_⟩⟩
        have : ¬ hc V H W f + x f = 0 := fun y => c ⟨w, y⟩
        omega
      · have dz : dlx x e f = x f := by unfold dlx; rw [if_neg z]; rfl
        rw [if_neg z]
        rw [dz] at hL
        exact hL
theorem Inv.hadd {U : NodV} {V : MemV} {H : OneV} {W : WkV} {n vol t T : Nat} {x : Nat → Nat} {e : Nat} (i : Inv U V H W n vol t T (dlx x e)) (he : e < 64) (h1 : ¬ V 1 e = 0) (h4 : ¬ V 4 e = -1) {k : Nat} (hk : k < 6) (hH : H 0 k = -1) (x0 : V 1 e = 0 → x e = 0) : Inv U V (uv H 0 k (nI e)) W n vol t T x := by
  have hh : ∀ j, uv H 0 k (nI e) 0 j = if j = k then nI e else H 0 j := fun j => uv_at H 0 k (nI e) j
  have hcc : ∀ f, f < 64 → hc V (uv H 0 k (nI e)) W f = hc V H W f + if f = e then 1 else 0 := by
    intro f hf
    have c1 := cnt_one (P := fun j => decide (H 0 j = nI f)) (P' := fun j => decide (uv H 0 k (nI e) 0 j = nI f)) (e := k) (n := 6) (k := 0) (Nat.zero_le _) (by omega) (fun j _ _ q => by rw [hh, if_neg q])
    rw [hh, if_pos rfl, hH] at c1
    have c2 : (if decide ((-1 : Int32) = nI f) = true then 1 else 0) = 0 := by
      rw [if_neg (by simp only [decide_eq_true_eq]; exact fun z => nI_m1 (show f < 2 ^ 31 by omega) z.symm)]
    have c3 : (if decide (nI e = nI f) = true then 1 else 0) = if f = e then 1 else 0 := by
      by_cases q : f = e
      · subst q; simp
      · have : ¬ nI e = nI f := fun z => q ((nI_eq (by omega) (by omega)).mp z).symm
        simp [q, this]
    rw [c2, c3, Nat.add_zero] at c1
    have c4 : hcH (uv H 0 k (nI e)) f = hcH H f + if f = e then 1 else 0 := by
      unfold hcH
      exact c1
    unfold hc
    rw [c4]
    omega
  refine i.h5 (fun _ _ _ => rfl) ⟨rfl, rfl, rfl⟩ ?_ ?_ i.W
  · intro f hf
    have hL := i.L f hf
    rw [hcc f hf]
    have dz : dlx x e f = x f + if f = e then 1 else 0 := rfl
    rw [dz] at hL
    refine ⟨fun q => ?_, by omega, fun q => ?_⟩
    · have := hL.1 q
      omega
    · have := hL.2.2 q
      rw [show hc V H W f + (if f = e then 1 else 0) + x f = hc V H W f + (x f + if f = e then 1 else 0) by omega]
      exact this
  · intro j hj
    rw [hh]
    by_cases z : j = k
    · rw [if_pos z]
      exact Or.inr ⟨e, he, rfl, h1, h4⟩
    · rw [if_neg z]
      exact i.H j hj
theorem Inv.hsub {U : NodV} {V : MemV} {H : OneV} {W : WkV} {n vol t T : Nat} {x : Nat → Nat} {e : Nat} (i : Inv U V H W n vol t T x) (he : e < 64) (h1 : ¬ V 1 e = 0) {k : Nat} (hk : k < 6) (hH : H 0 k = nI e) (xb : x e < 100) : Inv U V (uv H 0 k (-1)) W n vol t T (dlx x e) := by
  have hh : ∀ j, uv H 0 k (-1) 0 j = if j = k then -1 else H 0 j := fun j => uv_at H 0 k (-1) j
  have hcc : ∀ f, f < 64 → hc V (uv H 0 k (-1)) W f + (if f = e then 1 else 0) = hc V H W f := by
    intro f hf
    have c1 := cnt_one (P := fun j => decide (H 0 j = nI f)) (P' := fun j => decide (uv H 0 k (-1) 0 j = nI f)) (e := k) (n := 6) (k := 0) (Nat.zero_le _) (by omega) (fun j _ _ q => by rw [hh, if_neg q])
    rw [hh, if_pos rfl, hH] at c1
    have c2 : (if decide ((-1 : Int32) = nI f) = true then 1 else 0) = 0 := by
      rw [if_neg (by simp only [decide_eq_true_eq]; exact fun z => nI_m1 (show f < 2 ^ 31 by omega) z.symm)]
    have c3 : (if decide (nI e = nI f) = true then 1 else 0) = if f = e then 1 else 0 := by
      by_cases q : f = e
      · subst q; simp
      · have : ¬ nI e = nI f := fun z => q ((nI_eq (by omega) (by omega)).mp z).symm
        simp [q, this]
    rw [c2, c3, Nat.add_zero] at c1
    have c4 : hcH (uv H 0 k (-1)) f + (if f = e then 1 else 0) = hcH H f := by
      unfold hcH
      exact c1
    unfold hc
    omega
  refine i.h5 (fun _ _ _ => rfl) ⟨rfl, rfl, rfl⟩ ?_ ?_ i.W
  · intro f hf
    have hL := i.L f hf
    have hcf := hcc f hf
    have dz : dlx x e f = x f + if f = e then 1 else 0 := rfl
    rw [dz]
    refine ⟨fun q => ?_, ?_, fun q => ?_⟩
    · have := hL.1 q
      rw [if_neg (fun z => h1 (by rw [← z]; exact q))]
      omega
    · by_cases z : f = e
      · rw [if_pos z, z]; omega
      · rw [if_neg z]; exact hL.2.1
    · have := hL.2.2 q
      rw [show hc V (uv H 0 k (-1)) W f + (x f + if f = e then 1 else 0) = hc V H W f + x f by omega]
      exact this
  · intro j hj
    rw [hh]
    by_cases z : j = k
    · rw [if_pos z]
      exact Or.inl rfl
    · rw [if_neg z]
      exact i.H j hj
theorem CntI.sub {V V' : MemV} (C : CntI V) (h1 : ∀ f, f < 64 → ¬ V' 1 f = 0 → ¬ V 1 f = 0) (h9 : V' 9 = V 9) : CntI V' := by
  unfold CntI at C ⊢
  rw [h9]
  refine Nat.le_trans (cnt_mono (fun k _ hk q => ?_)) C
  simp only [decide_eq_true_eq] at q ⊢
  exact h1 k (by omega) q
end
section
/-! The reference sweeps; handles opened and closed; the room; trimming. -/
def swD (G : RowV) (k : Nat) (D : RowV) : RowV := if D (701 + 9 * k + 0) = 1 ∧ D (701 + 9 * k + 8) = 1 ∧ G k = 0 then sD D (701 + 9 * k + 0) 0 else D
theorem itr_sw (G : RowV) : ∀ (n k : Nat) (D : RowV) (j : Nat), (∀ i, k ≤ i → i < k + n → j ≠ 701 + 9 * i + 0) → itr (swD G) k n D j = D j
  | 0, k, D, j, _ => rfl
  | n + 1, k, D, j, h => by
    show itr (swD G) (k + 1) n (swD G k D) j = D j
    rw [itr_sw G n (k + 1) _ j (fun i a b => h i (by omega) (by omega))]
    unfold swD
    split
    · exact sD_n _ _ (h k (Nat.le_refl _) (by omega))
    · rfl
theorem itr_sw_at (G : RowV) : ∀ (n k : Nat) (D : RowV) (i : Nat), k ≤ i → i < k + n → itr (swD G) k n D (701 + 9 * i + 0) = if D (701 + 9 * i + 0) = 1 ∧ D (701 + 9 * i + 8) = 1 ∧ G i = 0 then 0 else D (701 + 9 * i + 0)
  | 0, k, D, i, h1, h2 => by omega
  | n + 1, k, D, i, h1, h2 => by
    show itr (swD G) (k + 1) n (swD G k D) (701 + 9 * i + 0) = _
    rcases Nat.eq_or_lt_of_le h1 with q | q
    · subst q
      rw [itr_sw G n (k + 1) _ _ (fun j a b => by omega)]
      unfold swD
      split
      · rw [sD_s]
      · rfl
    · rw [itr_sw_at G n (k + 1) _ i (by omega) (by omega)]
      have e : ∀ f, swD G k D (701 + 9 * i + f) = D (701 + 9 * i + f) := fun f => by
        unfold swD
        split
        · exact sD_n _ _ (by omega)
        · rfl
      rw [e 0, e 8]
theorem Rel.sweeps {U : NodV} {V V' : MemV} {H : OneV} {W : WkV} {D : RowV} {n vol t T : Nat} {x : Nat → Nat} (r : Rel none U V H W D n) (i : Inv U V H W n vol t T x) {J : MJ} (h : RefL J) (I : MI) (hb : I 188 20 = -1) (G : RowV) (c : Int32) (k : ∀ q : Fin 12, q ≠ 0 → q ≠ 1 → q ≠ 5 → q ≠ 11 → V' q = V q) (k0 : V' 0 11 = V 0 11 ∧ V' 0 12 = V 0 12 ∧ V' 0 13 = V 0 13 ∧ V' 0 14 = V 0 14) (k1 : ∀ f, f < 64 → V' 1 f = if V 1 f = 2 ∧ hc V H W f = 0 then 0 else V 1 f) : ∃ D' G', M_X10_sweeps [mR (some 188)] (rF I D G c, J) = some (none, (rF I D' G' c, J)) ∧ Rel none U V' H W D' n := by
  obtain ⟨c1, c2, c3⟩ := r.ch i
  obtain ⟨G', g1, g2⟩ := w_counts h I D G c c1 c2 c3 (Or.inl hb)
  have n60 := i.N.n60
  have gq : ∀ e, e < 64 → ¬ V 1 e = 0 → G' e = nI (hc V H W e) := fun e he q => by
    rw [g2 e (by omega), r.eqe i he q, r.eqh i e, hb, if_neg (fun z => nI_m1 (show e < 2 ^ 31 by omega) z.symm)]
    have hs : hcC V e + hcV V e + (hcH H e + hcW W e + pnd none V W e) + 0 = hc V H W e := by
      have p0 : pnd none V W e = 0 := rfl
      unfold hc
      rw [p0]
      omega
    rw [hs]
  have gz : ∀ e, e < 64 → ¬ V 1 e = 0 → (G' e = 0 ↔ hc V H W e = 0) := fun e he q => by
    have hl := i.hle e
    rw [gq e he q]
    constructor
    · intro z
      exact (nI_eq (by omega) (by omega)).mp (z.trans nI_0.symm)
    · intro z
      rw [z]; rfl
  refine ⟨itr (swD G') 0 128 D, G', ?_, ?_⟩
  · rw [E_X10_sweeps]
    simp only [h.kt, if_true, g1, Option.bind_some, asV_n]
    have s1 := loop_all (fun k D => Ev T_X10_sweeps 6 [some (mR (some 188)), some (mI (nI k))] [] (rF I D G' c, J)) (swD G') 128 D (fun k D hk => by
      try dsimp only
      rw [E_X10_sweeps_6, if_neg (show ¬ (128 : Int32) ≤ nI k from nI_ge hk (by decide))]
      simp only [h.kt, if_true, w_its h _ 0 (show (0 : Int32) = nI 0 from rfl) hk (by decide), w_its h _ 8 (show (8 : Int32) = nI 8 from rfl) hk (by decide), Option.bind_some, asI_I, rF_D, rF_G, nI_1, h.f19, h.f18, h.ldG _ rfl hk, w_entryAt _ k 0 (show (0 : Int32) = nI 0 from rfl), h.stD _ _ rfl (show 701 + 9 * k + 0 < 1853 by omega), rF_sD]
      unfold swD
      by_cases a : D (701 + 9 * k + 0) = 1
      · rw [if_pos a]
        by_cases b : D (701 + 9 * k + 8) = 1
        · rw [if_pos b]
          by_cases d : G' k = 0
          · rw [if_pos d, if_pos ⟨a, b, d⟩]
          · rw [if_neg d, if_neg (fun z => d z.2.2)]
        · rw [if_neg b, if_neg (fun z => b z.2.1)]
      · rw [if_neg a, if_neg (fun z => a z.1)])
    try dsimp only at s1
    rw [show (nI 0) = 0 from rfl] at s1
    rw [s1, E_X10_sweeps_6, if_pos (show (128 : Int32) ≤ nI 128 by decide)]
  · have o : ∀ j, (∀ e, e < 128 → j ≠ 701 + 9 * e + 0) → itr (swD G') 0 128 D j = D j := fun j q => itr_sw G' 128 0 D j (fun e _ b => q e (by omega))
    have b := r.B
    refine r.fr ⟨?_, ?_, ?_, ?_, ?_, ?_, ?_, ?_, ?_, ?_, ?_⟩ (fun j h1 h2 => o j (fun e _ => by omega)) (fun k z => by cases z)
    · rw [o 0 (fun e _ => by omega), k0.2.1]; exact b.tk
    · rw [o 1 (fun e _ => by omega), k0.2.2.1]; exact b.lo
    · rw [o 2 (fun e _ => by omega), k0.2.2.2]; exact b.tr
    · rw [o 3 (fun e _ => by omega), k0.1]; exact b.rm
    · rw [o 4 (fun e _ => by omega)]; exact b.ev
    · intro v hv
      rw [o _ (fun e _ => by omega), k 9 (by decide) (by decide) (by decide) (by decide)]; exact b.rt v hv
    · intro v hv
      rw [o _ (fun e _ => by omega), k 10 (by decide) (by decide) (by decide) (by decide)]; exact b.ov v hv
    · intro v hv
      rw [o _ (fun e _ => by omega)]; exact b.ha v hv
    · intro j hj
      rw [o _ (fun e _ => by omega), o _ (fun e _ => by omega), o _ (fun e _ => by omega), o _ (fun e _ => by omega), o _ (fun e _ => by omega)]
      exact b.nd j hj
    · intro f hf
      rw [itr_sw_at G' 128 0 D f (Nat.zero_le _) (by omega)]
      by_cases z : f < 64 ∧ ¬ V 1 f = 0
      · have en := b.en f z.1 z.2
        rw [b.th1 z.1 z.2, en.2.2.2.2.2.2.2, k1 f z.1]
        by_cases y : V 1 f = 2 ∧ hc V H W f = 0
        · rw [if_pos y, if_pos ⟨rfl, by rw [if_pos y.1], (gz f z.1 z.2).mpr y.2⟩, if_neg (fun w => w.2 rfl)]
        · rw [if_neg y, if_neg, if_pos z]
          rintro ⟨_, w2, w3⟩
          by_cases v2 : V 1 f = 2
          · exact y ⟨v2, (gz f z.1 z.2).mp w3⟩
          · rw [if_neg v2] at w2
            exact absurd w2 (by decide)
      · have th0 : D (701 + 9 * f + 0) = 0 := by rw [b.th f hf, if_neg z]
        rw [th0, if_neg (fun w => absurd w.1 (by decide)), if_neg]
        rintro ⟨w1, w2⟩
        apply w2
        rw [k1 f w1]
        have : V 1 f = 0 := Classical.byContradiction (fun y => z ⟨w1, y⟩)
        rw [this]
        split <;> rfl
    · intro f hf q
      have v1 : ¬ V 1 f = 0 ∧ V' 1 f = V 1 f := by
        rw [k1 f hf] at q ⊢
        by_cases y : V 1 f = 2 ∧ hc V H W f = 0
        · rw [if_pos y] at q; exact absurd rfl q
        · rw [if_neg y] at q ⊢; exact ⟨q, rfl⟩
      rw [o _ (fun e _ => by omega), o _ (fun e _ => by omega), o _ (fun e _ => by omega), o _ (fun e _ => by omega), o _ (fun e _ => by omega), o _ (fun e _ => by omega), o _ (fun e _ => by omega), o _ (fun e _ => by omega), k 2 (by decide) (by decide) (by decide) (by decide), k 3 (by decide) (by decide) (by decide) (by decide), k 4 (by decide) (by decide) (by decide) (by decide), k 6 (by decide) (by decide) (by decide) (by decide), k 7 (by decide) (by decide) (by decide) (by decide), k 8 (by decide) (by decide) (by decide) (by decide), v1.2, cov_fr (k 10 (by decide) (by decide) (by decide) (by decide))]
      exact b.en f hf v1.1
/-- a handle's place set, on both sides -/
theorem Rel.hset {U : NodV} {V : MemV} {H : OneV} {W : WkV} {D : RowV} {n : Nat} (r : Rel none U V H W D n) {k : Nat} (hk : k < 6) (v : Int32) (n60 : n ≤ 60) : Rel none U V (uv H 0 k v) W (sD D (11 + k) v) n := by
  have o : ∀ j, j ≠ 11 + k → sD D (11 + k) v j = D j := fun j q => sD_n _ _ q
  have b := r.B
  refine r.fr ⟨?_, ?_, ?_, ?_, ?_, ?_, ?_, ?_, ?_, ?_, ?_⟩ (fun j h1 h2 => o j (by omega)) (fun k z => by cases z)
  · rw [o 0 (by omega)]; exact b.tk
  · rw [o 1 (by omega)]; exact b.lo
  · rw [o 2 (by omega)]; exact b.tr
  · rw [o 3 (by omega)]; exact b.rm
  · rw [o 4 (by omega)]; exact b.ev
  · intro v hv
    rw [o _ (by omega)]; exact b.rt v hv
  · intro v hv
    rw [o _ (by omega)]; exact b.ov v hv
  · intro j hj
    rw [uv_at]
    by_cases z : j = k
    · rw [if_pos z, z, sD_s]
    · rw [if_neg z, o _ (by omega)]; exact b.ha j hj
  · intro j hj
    rw [o _ (by omega), o _ (by omega), o _ (by omega), o _ (by omega), o _ (by omega)]
    exact b.nd j hj
  · intro f hf
    rw [o _ (by omega)]
    exact b.th f hf
  · intro f hf q
    rw [o _ (by omega), o _ (by omega), o _ (by omega), o _ (by omega), o _ (by omega), o _ (by omega), o _ (by omega), o _ (by omega)]
    exact b.en f hf q
/-- a world out of its windows -/
theorem Wd.mk {I : MI} {U : NodV} {V : MemV} {H : OneV} {W : WkV} {D : RowV} {nn vol t T : Nat} (i : Inv U V H W nn vol t T (fun _ => 0)) (c : CntI V) (r : Rel none U V H W D nn) (q1 : vw 6 I 1 = U) (q2 : vw 12 I 17 = V) (q3 : vw 1 I 29 = H) (q4 : ∀ k, k < 4 → WkEq (wks I 31 k) (W k)) (qD : I 194 = D) : Wd I 1 17 29 31 (I 194) vol T := by
  refine ⟨nn, t, ?_, ?_, ?_⟩
  · rw [q1, q2, q3]
    exact i.cg (UEq.refl _) (VEq.refl _) (fun _ _ => rfl) q4
  · rw [q2]; exact c
  · rw [q1, q2, q3, qD]
    exact r.cg i.N.n60 (UEq.refl _) (VEq.refl _) (fun _ _ => rfl) q4 (fun _ _ => rfl)
end
section
/-! The room, trimming, on both sides. -/
theorem vw_up {N : Nat} (I : MI) (a : Nat) (k : Fin N) (j : Nat) (v : Int32) : vw N (up2 I (a + k.val) j v) a = uv (vw N I a) k j v := by
  funext k' j'
  show up2 I (a + k.val) j v (a + k'.val) j' = if k' = k ∧ j' = j then v else I (a + k'.val) j'
  unfold up2
  by_cases q : k' = k ∧ j' = j
  · rw [if_pos q, if_pos ⟨by rw [q.1], q.2⟩]
  · rw [if_neg q, if_neg]
    rintro ⟨z1, z2⟩
    exact q ⟨Fin.ext (by omega), z2⟩
theorem Told.h6 {I : MI} {nn vol t T : Nat} (i : Inv (vw 6 I 1) (vw 12 I 17) (vw 1 I 29) (wks I 31) nn vol t T (fun _ => 0)) : ¬ I 1 6 ≤ 0 := by
  have := i.N.vs
  have v := i.N.v3
  show ¬ vw 6 I 1 0 6 ≤ 0
  rw [this]
  exact nI_nle v.1 (by omega)
/-- refused at once, without a path -/
theorem Pair.no {I : MI} {J : MJ} {T B0 : Nat} (h : St I J T B0) (h30 : T + 10001 ≤ 1000000000) {k : Nat} (hk : k < 6) {v : Int32} {f g : MH → Option MO} (hf : f (I, J) = some (some (mI v), (rfz I k, J))) (hg : g (rfz I k, J) = some (some (mI v), (rfR (rfz I k) k, J))) : Pair I J T B0 f g := ⟨v, _, _, J, hf, hg, h.refuse h30 hk⟩
theorem le100 {x : Int32} : ¬ (100 : Int32) < x ↔ x ≤ 100 := by
  rw [Int32.not_lt]
theorem P_trim {I : MI} {J : MJ} {T B0 : Nat} (h : St I J T B0) (h30 : T + 10001 ≤ 1000000000) (x : Int32) : Pair I J T B0 (M_X9_trim [mR (some 0), mI x]) (M_X10_trim [mR (some 188), mI x]) := by
  have refs : ∀ Y : MI, RefL J → (bz (Y 188 13) = 0 ∨ x < 1 ∨ ¬ x ≤ 100) → M_X10_trim [mR (some 188), mI x] (Y, J) = some (some (mI (-1)), (rfR Y 2, J)) := fun Y rl hc => by
    rw [E_X10_trim]
    simp only [rl.fz, Option.bind_some, rl.kt, if_true, w_refuses rl Y (show (2 : Int32) = nI 2 from rfl) (by decide), asI_I, w_isIn x 1 100 _ (show (1 : Int64) = Int32.toInt64 1 from rfl) (show (100 : Int64) = Int32.toInt64 100 from rfl)]
    by_cases z : bz (Y 188 13) = 0
    · rw [if_pos z]
    · rw [if_neg z]
      by_cases a : x < 1
      · simp [a]
      · rw [if_neg a, if_pos (Classical.byContradiction (fun y => hc.elim z (fun w => w.elim a (fun v => v (le100.mp y)))))]
        simp
  rcases h.2.2.2.2.2.2.2.2.2 with td | u
  · by_cases hc : x < 1 ∨ ¬ x ≤ 100
    · refine Pair.no h h30 (k := 2) (by decide) (u_trim_no h.1.1 I x (Or.inr hc)) (refs _ h.1.2 (Or.inr hc))
    · have b1 : ¬ x < 1 := fun z => hc (Or.inl z)
      have b2 : x ≤ 100 := Classical.byContradiction (fun z => hc (Or.inr z))
      have xn : x = nI (ix x) := nI_ix (fun z => b1 (Int32.lt_trans z (by decide)))
      have x100 : ix x ≤ 100 := by
        rw [xn] at b2
        exact (nI_leI (b := 100) (ix_lt x) (by decide)).mp b2
      obtain ⟨vol, nn, t, X, J1, hv, i, c, r, k1, kl, rl, ⟨e1, e2, e3, e4, _⟩, xo, j6, _, rest⟩ := act_pre0 h h30 td
      have uE := u_trim h.1.1 I x (Told.h6 i) b1 b2 k1 kl
      rw [e2] at uE
      have ts : ∀ y, o_X1_trimSome (vw 12 I 17) x = (lp_X1_shrink_12 (-1) y (ix x) 0 (vw 12 I 17) 0 14 - vw 12 I 17 0 14, lp_X1_shrink_12 (-1) y (ix x) 0 (vw 12 I 17)) := fun y => trim_same x _ y (ix x) 0 (vw 12 I 17)
      unfold q_X1_trimSome gV_X1_trimSome at uE
      rw [ts 0] at uE
      have uE : M_X9_trim [mR (some 0), mI x] (I, J) = some (some (mI (lp_X1_shrink_12 (-1) 0 (ix x) 0 (vw 12 I 17) 0 14 - vw 12 I 17 0 14)), (pt X 17 (lp_X1_shrink_12 (-1) 0 (ix x) 0 (vw 12 I 17)), J1)) := uE
      obtain ⟨Z, z1, ⟨zD, z20, z21, zl, z190, _, _, z13⟩, zo, zk, fin⟩ := rest (pt X 17 (lp_X1_shrink_12 (-1) 0 (ix x) 0 (vw 12 I 17))) (fun y a _ _ => pt_out (by omega)) (by rw [pt_out (by decide), xo 0 (by decide) (by decide)])
      obtain ⟨D', G', k', s1, s2, s3, s4, s5, s6, s7, s8⟩ := r.trims i rl Z (by rw [z20]; exact Or.inl ⟨rfl, fun _ => rfl⟩) (Z 195) (Z 188 22) (-1) 0 x (by omega) (fun _ _ _ => rfl)
      rw [← zD, rF_id] at s1
      generalize hV' : lp_X1_shrink_12 (-1) 0 (ix x) 0 (vw 12 I 17) = V' at uE z1 zl s2 s3 s4 s5 s6 s7 s8
      have cc : CntI V' := c.sub (fun f hf q => by
        rcases s4.2.2 f hf with z | z
        · exact absurd z q
        · rw [z] at q; exact q) (s4.1 9 (by decide) (by decide) (by decide))
      have kI1 : ∀ y, y < 188 → y < 17 ∨ 29 ≤ y → Z y = X y := fun y a b => by rw [zl y a]; exact pt_out (by omega)
      refine ⟨_, _, rF Z D' G' (Z 188 22), J1, uE, ?_, ?_⟩
      · rw [E_X10_trim]
        have i1 : ∀ y, 188 ≤ y → y < 208 → pt X 17 V' y = I y := fun y a b => by rw [pt_out (by omega), xo y (by omega) (by omega)]
        have t13 : ¬ bz (pt X 17 V' 188 13) = 0 := by
          rw [zk 13 (by decide) (by decide)] at z13
          rw [i1 188 (by decide) (by decide)]
          exact z13
        simp only [rl.fz, Option.bind_some, rl.kt, if_true, if_neg t13, asI_I, w_isIn x 1 100 _ (show (1 : Int64) = Int32.toInt64 1 from rfl) (show (100 : Int64) = Int32.toInt64 100 from rfl), if_neg b1, if_neg (le100.mpr b2), if_neg i10, z1, asV_n, s1]
        have : V' 0 14 - vw 12 I 17 0 14 = nI k' := by
          rw [s6, Int32.add_comm]
          exact Int32.add_sub_cancel _ _
        rw [this]
      · refine fin _ J1 (fun y a b _ d e _ _ _ => rF_o _ _ _ _ a d e) (fun k _ a _ => rF_k _ _ _ _ a) ?_ ?_ ?_ ?_ rfl
        · refine h.2.2.2.1.fr ?_ ?_
          · rw [rF_o _ _ _ _ (by decide) (by decide) (by decide), kI1 186 (by decide) (by decide), xo 186 (by decide) (by decide)]
          · rw [rF_o _ _ _ _ (by decide) (by decide) (by decide), z190]
        · refine h.2.2.2.2.2.1.fr ?_ ?_ ?_ ?_
          · rw [rF_o _ _ _ _ (by decide) (by decide) (by decide), kI1 0 (by decide) (by decide), xo 0 (by decide) (by decide)]
          · rw [rF_o _ _ _ _ (by decide) (by decide) (by decide), kI1 187 (by decide) (by decide), xo 187 (by decide) (by decide)]
          · rw [rF_k _ _ _ _ (by decide), zk 32 (by decide) (by decide)]
          · rw [rF_o _ _ _ _ (by decide) (by decide) (by decide), zo 201 (by decide) (by decide), pt_out (by decide), xo 201 (by decide) (by decide)]
        · refine Wd.mk (s3.T (show T ≤ T + 10001 by omega) h30) cc s2 ?_ ?_ ?_ (fun k hk => ?_) (rF_D _ _ _ _)
          · rw [vw_r _ _ _ _ (by decide), ← e1]
            exact vw_fr (fun y _ _ => kI1 y (by omega) (by omega))
          · rw [vw_r _ _ _ _ (by decide), vw_fr (I := pt X 17 V') (fun y _ _ => zl y (by omega)), vw_pt]
          · rw [vw_r _ _ _ _ (by decide), ← e3]
            exact vw_fr (fun y _ _ => kI1 y (by omega) (by omega))
          · rw [wks_fr (I := I) (fun y a b => by rw [rF_o _ _ _ _ (by omega) (by omega) (by omega), kI1 y (by omega) (by omega), e4 y a (by omega)]) hk]
            exact WkEq.refl _
        · exact j6
  · exact Pair.no h h30 (k := 2) (by decide) (u_trim_no h.1.1 I x (Or.inl (by rw [u.2.2.1.2.1]; exact Int32.le_refl _))) (refs _ h.1.2 (Or.inl (by rw [rfz_o _ _ (by decide)]; exact u.2.1)))
end

/-! Calls with a path: what they leave as it is. -/
theorem tkn_o (I : MI) (T : Nat) {x : Nat} (h7 : x ≠ 7) (h : x < 158 ∨ 183 ≤ x) : tkn I T x = I x := by
  have r : (rowO I T).2 x = I x := by
    unfold rowO
    by_cases a : I 1 6 ≤ 0
    · rw [if_pos a]
    · rw [if_neg a]
      exact lpRow_out _ _ _ _ _ _ _ h
  unfold tkn clr
  by_cases z : x = 8
  · subst z
    have := pt_in (I := (rowO I T).2) (a := 7) (V := gQ_X5_clear (vw 2 (rowO I T).2 7)) (1 : Fin 2)
    rw [show (7 + (1 : Fin 2).val) = 8 from rfl] at this
    rw [this]
    unfold gQ_X5_clear
    rw [uv_k _ _ _ _ _ (by decide)]
    exact r
  · rw [pt_out (by omega)]
    exact r
theorem tkn_7 (I : MI) (T : Nat) : tkn I T 7 1 = 0 := by
  unfold tkn clr gQ_X5_clear
  rw [pt_0, uv_s]
theorem tkn_r (I : MI) (T : Nat) {x : Nat} (h7 : x ≠ 7) (h8 : x ≠ 8) : tkn I T x = (rowO I T).2 x := by
  unfold tkn clr
  rw [pt_out (by omega)]
/-- the fields and rows that no act with a path touches -/
def Kee (I I2 : MI) : Prop := I2 9 = I 9 ∧ I2 69 = I 69 ∧ (∀ x, 134 ≤ x → x < 158 → I2 x = I x) ∧ I2 202 = I 202 ∧ I2 203 = I 203 ∧ ∀ k, k = 6 ∨ k = 7 ∨ k = 11 ∨ k = 13 ∨ k = 20 ∨ k = 21 ∨ k = 36 ∨ k = 37 → I2 188 k = I 188 k
def Kee4 (I I2 : MI) : Prop := I2 0 11 = I 0 11 ∧ I2 185 = I 185 ∧ I2 188 25 = I 188 25 ∧ I2 197 = I 197
def Kee5 (I I2 : MI) : Prop := I2 0 14 = I 0 14 ∧ I2 187 = I 187 ∧ I2 188 32 = I 188 32 ∧ I2 201 = I 201
theorem St.act {I I' I2 X : MI} {J J1 : MJ} {T B0 vol p q : Nat} {D : RowV} (h : St I J T B0) (h30 : T + 10001 ≤ 1000000000) (hv : I 188 11 = nI vol) (ht : ¬ bz (I 188 13) = 0) (kf : KpF I' J p q vol T B0 D X J1) (e199 : I' 199 = I 199) (s1 : S1 I2) (s3 : S3 I2) (k0 : Kee I I2) (s4 : S4 I2) (s5 : S5 I2) (w : Wd I2 1 17 29 31 (I2 194) vol (T + 10001)) (a67 : I2 67 = X 67) (ak : ∀ a, 208 ≤ a → I2 a = X a) (a28 : I2 188 28 = nI (min (q + 1) 20)) (a29 : I2 188 29 = nI ((p + 1) % 20)) (aD : ∀ k, k < 1853 → I2 199 (1853 * ((p + 1) % 20) + k) = D k) (aS : ∀ s k, s < 20 → s ≠ (p + 1) % 20 → k < 1853 → I2 199 (1853 * s + k) = I 199 (1853 * s + k)) : St I2 J1 (T + 10001) B0 := by
  obtain ⟨kl, rl, j0, x0, ad', hh⟩ := kf
  have hs := hh I2 a67 ak a28 a29 aD (fun s k a b c => by rw [aS s k a b c, e199])
  obtain ⟨k9, k69, k134, k202, k203, kk⟩ := k0
  obtain ⟨L, s7⟩ := h.2.2.2.2.2.2.2.1
  refine ⟨⟨kl, rl⟩, s1, h.2.2.1.fr k9 (kk 6 (by omega)) (kk 7 (by omega)), s3, s4, s5, h.2.2.2.2.2.2.1.fr (j0 0 (by decide)) (j0 188 (by decide)), ⟨L, s7.fr (by rw [k69]) (by rw [k69]) k134 (kk 36 (by omega)) (kk 37 (by omega)) k202 k203⟩, h.2.2.2.2.2.2.2.2.1.fr (kk 20 (by omega)) (kk 21 (by omega)), Or.inl ⟨vol, ad', (p + 1) % 20, min (q + 1) 20, by rw [kk 11 (by omega)]; exact hv, by rw [kk 13 (by omega)]; exact ht, w, ?_⟩⟩
  exact hs.fr rfl rfl rfl rfl (fun _ _ => rfl) (by omega) h30
/-- a call with a path that is refused at once -/
theorem St.tk {I I2 : MI} {J : MJ} {T B0 : Nat} (h : St I J T B0) (h30 : T + 10001 ≤ 1000000000) (s3 : S3 I2) (a : ∀ x, x ≠ 7 → (x < 158 ∨ 183 ≤ x) → x ≠ 186 → x ≠ 188 → x ≠ 190 → x ≠ 192 → x ≠ 193 → x ≠ 204 → x ≠ 205 → I2 x = I x) (b : ∀ k, k ≠ 1 → k ≠ 2 → k ≠ 3 → k ≠ 15 → k ≠ 17 → k ≠ 38 → I2 188 k = I 188 k) (a7 : I2 7 1 = 0) (b1 : I2 188 1 = 0) : St I2 J (T + 10001) B0 := by
  have a' : ∀ x, x < 158 → x ≠ 7 → I2 x = I x := fun x p q => a x q (by omega) (by omega) (by omega) (by omega) (by omega) (by omega) (by omega) (by omega)
  have r' : ∀ x, 183 ≤ x → x ≠ 186 → x ≠ 188 → x ≠ 190 → x ≠ 192 → x ≠ 193 → x ≠ 204 → x ≠ 205 → I2 x = I x := fun x p q => a x (by omega) (by omega) q
  obtain ⟨L, s7⟩ := h.2.2.2.2.2.2.2.1
  refine h.sm (S1.emp a7 b1) (h.2.2.1.fr (a' _ (by decide) (by decide)) (b _ (by decide) (by decide) (by decide) (by decide) (by decide) (by decide)) (b _ (by decide) (by decide) (by decide) (by decide) (by decide) (by decide))) s3 (h.2.2.2.2.1.fr (by rw [a' 0 (by decide) (by decide)]) (r' _ (by decide) (by decide) (by decide) (by decide) (by decide) (by decide) (by decide) (by decide)) (b _ (by decide) (by decide) (by decide) (by decide) (by decide) (by decide)) (r' _ (by decide) (by decide) (by decide) (by decide) (by decide) (by decide) (by decide) (by decide))) (h.2.2.2.2.2.1.fr (by rw [a' 0 (by decide) (by decide)]) (r' _ (by decide) (by decide) (by decide) (by decide) (by decide) (by decide) (by decide) (by decide)) (b _ (by decide) (by decide) (by decide) (by decide) (by decide) (by decide)) (r' _ (by decide) (by decide) (by decide) (by decide) (by decide) (by decide) (by decide) (by decide))) ⟨L, s7.fr (by rw [a' 69 (by decide) (by decide)]) (by rw [a' 69 (by decide) (by decide)]) (fun x _ _ => a' x (by omega) (by omega)) (b _ (by decide) (by decide) (by decide) (by decide) (by decide) (by decide)) (b _ (by decide) (by decide) (by decide) (by decide) (by decide) (by decide)) (r' _ (by decide) (by decide) (by decide) (by decide) (by decide) (by decide) (by decide) (by decide)) (r' _ (by decide) (by decide) (by decide) (by decide) (by decide) (by decide) (by decide) (by decide))⟩ (h.2.2.2.2.2.2.2.2.1.fr (b _ (by decide) (by decide) (by decide) (by decide) (by decide) (by decide)) (b _ (by decide) (by decide) (by decide) (by decide) (by decide) (by decide))) (fun x p q _ _ _ _ => a' x (by omega) q) (a' _ (by decide) (by decide)) (fun _ => ⟨by rw [a' 69 (by decide) (by decide)], by rw [a' 69 (by decide) (by decide)]⟩) (fun x p => r' x (by omega) (by omega) (by omega) (by omega) (by omega) (by omega) (by omega) (by omega)) (fun k q => b k (by omega) (by omega) (by omega) (by omega) (by omega) (by omega)) (fun k _ => by rw [r' 194 (by decide) (by decide) (by decide) (by decide) (by decide) (by decide) (by decide) (by decide)]) (r' _ (by decide) (by decide) (by decide) (by decide) (by decide) (by decide) (by decide) (by decide)) (by omega) h30
theorem S3.rf {I Y1 : MI} {k T : Nat} (h : S3 I) (hk : k < 6) (e186 : Y1 186 = rfz (tkn I T) k 186) (e190 : Y1 190 = I 190) : S3 (rfR Y1 k) := by
  refine h.ref (k := k) (fun j => ?_) (fun j => ?_) hk
  · rw [rfR_o _ _ (by decide), e186]
    unfold rfz
    rw [up2_r, tkn_o I T (show (186 : Nat) ≠ 7 by decide) (by decide)]
  · unfold rfR
    rw [up2_r, e190]
/-- the reference's ways to refuse a path -/
def Rfs (g : MH → Option MO) (k : Nat) : Prop := ∀ (J : MJ) (X X1 : MI) (y : Int32), RefL J → M_X10_isPath [mR (some 188)] (X, J) = some (some (mI y), (X1, J)) → (y = 0 ∨ (¬ y = 0 ∧ bz (X1 188 13) = 0)) → g (X, J) = some (some (mI (-1)), (rfR X1 k, J))
theorem Pair.path_no {I : MI} {J : MJ} {T B0 n : Nat} (h : St I J T B0) (h30 : T + 10001 ≤ 1000000000) (t1 : Tap (vw 2 I 7) n) (t2 : I 188 1 = nI n) (t3 : ∀ k, k < n → I 189 k = I 8 k) (hn : ¬ (rowO I n).1 = 1) {k : Nat} (hk : k < 6) {f g : MH → Option MO} (hf : f (I, J) = some (some (mI (-1)), (rfz (tkn I n) k, J))) (hg : Rfs g k) : Pair I J T B0 f g := by
  have o : ∀ x, x ≠ 7 → (x < 158 ∨ 183 ≤ x) → x ≠ 186 → rfz (tkn I n) k x = I x := fun x p q r => by rw [rfz_o _ _ r, tkn_o _ _ p q]
  obtain ⟨y, p', l', S', g1, g2⟩ := path1 (Y := rfz (tkn I n) k) h.1.2 t1 (by rw [o 188 (by decide) (by decide) (by decide)]; exact t2) (fun j hj => by rw [o 189 (by decide) (by decide) (by decide)]; exact t3 j hj)
  have po : ∀ x, x ≠ 188 → x ≠ 192 → pF (bgP (rfz (tkn I n) k) n) (nI p') (nI l') S' x = rfz (tkn I n) k x := fun x p q => by rw [pF_o _ _ _ _ p q, bgP_o _ _ p]
  have pk : ∀ j, j ≠ 1 → j ≠ 2 → j ≠ 3 → j ≠ 15 → pF (bgP (rfz (tkn I n) k) n) (nI p') (nI l') S' 188 j = I 188 j := fun j a b c d => by rw [pF_k _ _ _ _ b d, bgP_k _ _ a b c, o 188 (by decide) (by decide) (by decide)]
  have cond : y = 0 ∨ (¬ y = 0 ∧ bz (pF (bgP (rfz (tkn I n) k) n) (nI p') (nI l') S' 188 13) = 0) := by
    rcases h.2.2.2.2.2.2.2.2.2 with ⟨vol, ad, p, q, _, _, ⟨nn, t, i, _⟩, _⟩ | u
    · rcases g2 (by
        have := i.N.vs
        have v := i.N.v3
        show ¬ vw 6 I 1 0 6 ≤ 0
        rw [this]
        exact nI_nle v.1 (by omega)) with ⟨z, _⟩ | ⟨_, z⟩
      · exact absurd z hn
      · exact Or.inl z
    · by_cases z : y = 0
      · exact Or.inl z
      · refine Or.inr ⟨z, ?_⟩
        rw [pk 13 (by decide) (by decide) (by decide) (by decide)]
        exact u.2.1
  refine ⟨-1, _, _, J, hf, hg J _ _ y h.1.2 g1 cond, ?_⟩
  refine h.tk h30 (h.2.2.2.1.rf hk (po 186 (by decide) (by decide)) (by rw [po 190 (by decide) (by decide), o 190 (by decide) (by decide) (by decide)])) (fun x a1 a2 a3 a4 a5 a6 _ _ _ => ?_) (fun j b1 b2 b3 b4 _ _ => ?_) ?_ ?_
  · rw [rfR_o _ _ a5, po x a4 a6, o x a1 a2 a3]
  · rw [rfR_o _ _ (by decide)]
    exact pk j b1 b2 b3 b4
  · rw [rfR_o _ _ (by decide), po 7 (by decide) (by decide), rfz_o _ _ (by decide)]
    exact tkn_7 I n
  · rw [rfR_o _ _ (by decide), pF_k _ _ _ _ (by decide) (by decide)]
    exact (bgP_3 _ _).2.1
theorem Rfs.look : Rfs (M_X10_look [mR (some 188)]) 2 := by
  intro J X X1 y h hp hc
  rw [E_X10_look]
  simp only [h.kt, if_true, hp, Option.bind_some, asI_I, h.fz, w_refuses h _ (show (2 : Int32) = nI 2 from rfl) (by decide)]
  rcases hc with z | ⟨z1, z2⟩
  · rw [if_pos z]
  · rw [if_neg z1, if_pos z2]

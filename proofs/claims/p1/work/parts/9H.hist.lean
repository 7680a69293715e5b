/-! The history, on both sides. -/
abbrev jC (J : MJ) : Nat := J.2.2.2.1
abbrev jB (J : MJ) : Nat := J.2.2.2.2
def KSl (J : MJ) (ad : Nat → Option Nat) : Prop := (∀ s, s < 20 → (ad s = none ∧ jR J 68 s = none) ∨ ∃ a, ad s = some a ∧ jR J 68 s = some (a + 6) ∧ KwL J a ∧ 208 ≤ a ∧ a + 45 ≤ jC J) ∧ ∀ s s' a a', s < 20 → s' < 20 → s ≠ s' → ad s = some a → ad s' = some a' → a + 45 ≤ a' ∨ a' + 45 ≤ a
def Rm (J : MJ) (ad : Nat → Option Nat) (B0 : Nat) : Prop := jC J = 208 + 45 * cnt (fun s => (ad s).isSome) 0 20 ∧ jB J = B0 + 1193 * cnt (fun s => (ad s).isSome) 0 20
def kpt (I : MI) (ad : Nat → Option Nat) (p j vol T : Nat) : Prop := ∃ a, ad ((p + 19 - j) % 20) = some a ∧ Wd I a (a + 7) (a + 19) (a + 21) (fun i => I 199 (1853 * ((p + 20 - j) % 20) + i)) vol T
def His (I : MI) (J : MJ) (ad : Nat → Option Nat) (p q vol T B0 : Nat) : Prop := (I 67 1 = nI p ∧ p < 20 ∧ I 67 2 = nI q ∧ q ≤ 20) ∧ (I 188 28 = nI q ∧ I 188 29 = nI p) ∧ KSl J ad ∧ Rm J ad B0 ∧ ∀ j, j < q → kpt I ad p j vol T
theorem His.fr {I I' : MI} {J : MJ} {ad : Nat → Option Nat} {p q vol T T' B0 : Nat} (h : His I J ad p q vol T B0) (e67 : I' 67 = I 67) (e28 : I' 188 28 = I 188 28) (e29 : I' 188 29 = I 188 29) (e199 : I' 199 = I 199) (ek : ∀ a, 208 ≤ a → I' a = I a) (hT : T ≤ T') (h30 : T' ≤ 1000000000) : His I' J ad p q vol T' B0 := by
  refine ⟨by rw [e67]; exact h.1, by rw [e28, e29]; exact h.2.1, h.2.2.1, h.2.2.2.1, fun j hj => ?_⟩
  obtain ⟨a, a1, a2⟩ := h.2.2.2.2 j hj
  have a3 : 208 ≤ a := by
    have := h.1.2.1
    rcases h.2.2.1.1 ((p + 19 - j) % 20) (by omega) with z | ⟨b, b1, _, _, b2, _⟩
    · rw [z.1] at a1; cases a1
    · rw [b1] at a1; cases a1; exact b2
  refine ⟨a, a1, (a2.fr (fun x _ _ => ek x (by omega)) (fun x _ _ => ek x (by omega)) (ek _ (by omega)) (fun x _ _ => ek x (by omega)) (fun k _ => by rw [e199])).T hT h30⟩
/-- what the class's keep leaves, and what follows once the reference has kept, too -/
def KpF (I : MI) (J : MJ) (p q vol T B0 : Nat) (D : RowV) (X : MI) (J1 : MJ) : Prop := KL J1 ∧ RefL J1 ∧ (∀ a, a < 208 → J1.1 a = J.1 a) ∧ (∀ a, a < 208 → a ≠ 67 → X a = I a) ∧ ∃ ad', ∀ I2, I2 67 = X 67 → (∀ a, 208 ≤ a → I2 a = X a) → I2 188 28 = nI (min (q + 1) 20) → I2 188 29 = nI ((p + 1) % 20) → (∀ k, k < 1853 → I2 199 (1853 * ((p + 1) % 20) + k) = D k) → (∀ s k, s < 20 → s ≠ (p + 1) % 20 → k < 1853 → I2 199 (1853 * s + k) = I 199 (1853 * s + k)) → His I2 J1 ad' ((p + 1) % 20) (min (q + 1) 20) vol T B0
theorem His.keep {I : MI} {J : MJ} {ad : Nat → Option Nat} {p q vol T B0 : Nat} {D : RowV} (k : KL J) (r : RefL J) (hh : His I J ad p q vol T B0) (w : Wd I 1 17 29 31 D vol T) : ∃ X J1, M_X0_keep [mR (some 67), mR (some 16)] (I, J) = some (none, (X, J1)) ∧ KpF I J p q vol T B0 D X J1 := by
  obtain ⟨⟨hp, p20, hq, q20⟩, _, hK, hR, hkp⟩ := hh
  have p1 : (if p + 1 < 20 then p + 1 else 0) = (p + 1) % 20 := by split <;> omega
  have k67 : ∀ (Y : MI), kpI Y 67 p q 67 1 = nI ((p + 1) % 20) ∧ kpI Y 67 p q 67 2 = nI (min (q + 1) 20) := fun Y => by
    unfold kpI
    rw [p1]
    simp [up2]
  have ko : ∀ (Y : MI) x, x ≠ 67 → kpI Y 67 p q x = Y x := fun Y x hx => by
    funext y
    unfold kpI
    simp [up2, hx]
  rcases hK.1 p p20 with ⟨z1, z2⟩ | ⟨a, a1, a2, a3, a4, a5⟩
  · have cge : 208 ≤ jC J := by
      have := hR.1
      omega
    obtain ⟨I1, J1, e1, e2, e3, e4, e5, e6, e7⟩ := t_keep_new k.his k.world k.han k.wks k.nodes k.mem z2 I (show 1 + 6 ≤ jC J by omega) (show 17 + 12 ≤ jC J by omega) (show 29 < jC J by omega) (show 31 + 24 ≤ jC J by omega) (show 67 < jC J by omega) (show 68 < jC J by omega) (show 16 < jC J by omega) (show 30 < jC J by omega) (by decide) (by decide) (by decide) (by decide) (by decide) (by decide) (by decide) hp hq p20 q20
    have e2 : jC J1 = jC J + 45 := e2
    have e3 : jB J1 = jB J + 1193 := e3
    have e4 : ∀ x, x < jC J → I1 x = I x ∧ J1.1 x = J.1 x ∧ jS J1 x = jS J x := e4
    have e5 : ∀ x, x < jC J → x ≠ 68 → jR J1 x = jR J x ∧ jS J1 x = jS J x := e5
    have e6 : ∀ k, jR J1 68 k = if k = p then some (jC J + 6) else jR J 68 k := e6
    have e7 : KwL J1 (jC J) := e7
    have ev : sz (I, J) = jC J := rfl
    rw [ev] at e1
    generalize hc : jC J = c at e1 e2 e4 e5 e6 e7 cge
    have co : ∀ x, x < c → kpI (h_X8_copyFrom I1 1 17 29 31 c (c + 7) (c + 19) (c + 21)) 67 p q x = if x = 67 then kpI (h_X8_copyFrom I1 1 17 29 31 c (c + 7) (c + 19) (c + 21)) 67 p q 67 else I x := fun x hx => by
      by_cases z : x = 67
      · rw [if_pos z, z]
      · rw [if_neg z, ko _ _ z, copy_out I1 1 17 29 31 c (c + 7) (c + 19) (c + 21) (by omega) (by omega) (by omega) (by omega)]
        exact (e4 x hx).1
    have w1 : Wd I1 1 17 29 31 D vol T := w.fr (fun x _ _ => (e4 x (by omega)).1) (fun x _ _ => (e4 x (by omega)).1) (e4 29 (by omega)).1 (fun x _ _ => (e4 x (by omega)).1) (fun _ _ => rfl)
    have w2 := w1.copy (n := c) (m := c + 7) (g := c + 19) (w := c + 21) (by omega) (by omega) (by omega) (by decide) (by decide) (by decide) (Or.inr (by omega))
    refine ⟨_, J1, e1, k.gx (fun x a b => e5 x (by omega) b) ((e4 68 (by omega)).2.2), r.gx (fun x a b => e5 x (by omega) (by omega)), fun a ha => (e4 a (by omega)).2.1, fun a ha hne => ?_, fun s => if s = p then some c else ad s, fun I2 h67 hk h28 h29 hD hs => ?_⟩
    · rw [co a (by omega), if_neg hne]
    · refine ⟨?_, ⟨h28, h29⟩, ⟨fun s hs' => ?_, fun s s' b b' h1 h2 h3 h4 h5 => ?_⟩, ?_, fun j hj => ?_⟩
      · rw [h67]
        exact ⟨(k67 _).1, by omega, (k67 _).2, by omega⟩
      · by_cases z : s = p
        · refine Or.inr ⟨c, if_pos z, ?_, e7, cge, by omega⟩
          rw [e6 s, if_pos z]
        · rcases hK.1 s hs' with ⟨y1, y2⟩ | ⟨b, b1, b2, b3, b4, b5⟩
          · exact Or.inl ⟨(if_neg z).trans y1, by rw [e6 s, if_neg z]; exact y2⟩
          · rw [hc] at b5
            exact Or.inr ⟨b, (if_neg z).trans b1, by rw [e6 s, if_neg z]; exact b2, b3.gx (fun x p q => e5 x (by omega) (by omega)), b4, by omega⟩
      · have low : ∀ s b, s < 20 → ad s = some b → b + 45 ≤ c := fun s b hs h => by
          rcases hK.1 s hs with ⟨y1, _⟩ | ⟨b', b1, _, _, _, b5⟩
          · rw [y1] at h; cases h
          · rw [b1] at h; cases h; rw [hc] at b5; exact b5
        by_cases z : s = p
        · have h4 : (if s = p then some c else ad s) = some b := h4
          have h5 : (if s' = p then some c else ad s') = some b' := h5
          rw [if_pos z] at h4
          rw [if_neg (by omega)] at h5
          cases h4
          have := low s' b' h2 h5
          omega
        · have h4 : (if s = p then some c else ad s) = some b := h4
          have h5 : (if s' = p then some c else ad s') = some b' := h5
          rw [if_neg z] at h4
          by_cases z' : s' = p
          · rw [if_pos z'] at h5
            cases h5
            have := low s b h1 h4
            omega
          · rw [if_neg z'] at h5
            exact hK.2 s s' b b' h1 h2 h3 h4 h5
      · have one := cnt_one (P := fun s => (ad s).isSome) (P' := fun s => (if s = p then some c else ad s).isSome) (e := p) (n := 20) (k := 0) (Nat.zero_le _) (by omega) (fun i _ _ q => by simp [q])
        rw [z1] at one
        have y1 : (if (none : Option Nat).isSome = true then 1 else 0) = 0 := rfl
        have y2 : (if (if p = p then some c else none : Option Nat).isSome = true then 1 else 0) = 1 := by rw [if_pos rfl]; rfl
        rw [y1, y2, Nat.add_zero] at one
        unfold Rm
        have r1 := hR.1
        have r2 := hR.2
        rw [e2, e3, one, r2]
        rw [hc] at r1
        refine ⟨by omega, by omega⟩
      · have kp20 : j < 20 := by omega
        by_cases z : j = 0
        · subst z
          refine ⟨c, if_pos (by omega), ?_⟩
          refine w2.fr (fun x _ _ => ?_) (fun x _ _ => ?_) ?_ (fun x _ _ => ?_) (fun i hi => ?_)
          · rw [hk x (by omega), ko _ _ (by omega)]
          · rw [hk x (by omega), ko _ _ (by omega)]
          · rw [hk _ (by omega), ko _ _ (by omega)]
          · rw [hk x (by omega), ko _ _ (by omega)]
          · show I2 199 (1853 * (((p + 1) % 20 + 20 - 0) % 20) + i) = D i
            rw [show ((p + 1) % 20 + 20 - 0) % 20 = (p + 1) % 20 by omega]
            exact hD i hi
        · obtain ⟨b, b1, b2⟩ := hkp (j - 1) (by omega)
          have bs : (p + 19 - (j - 1)) % 20 = ((p + 1) % 20 + 19 - j) % 20 := by omega
          have bl : b + 45 ≤ c ∧ 208 ≤ b := by
            rcases hK.1 ((p + 19 - (j - 1)) % 20) (by omega) with ⟨y1, _⟩ | ⟨b', b1', _, _, b4, b5⟩
            · rw [y1] at b1; cases b1
            · rw [b1'] at b1; cases b1; rw [hc] at b5; exact ⟨b5, b4⟩
          refine ⟨b, ?_, ?_⟩
          · show (if ((p + 1) % 20 + 19 - j) % 20 = p then some c else ad (((p + 1) % 20 + 19 - j) % 20)) = some b
            rw [if_neg (by omega), ← bs]
            exact b1
          · have same : ∀ x, 208 ≤ x → x < c → I2 x = I x := fun x a1 a2 => by
              rw [hk x a1, co x a2, if_neg (by omega)]
            refine b2.fr (fun x _ _ => same x (by omega) (by omega)) (fun x _ _ => same x (by omega) (by omega)) (same _ (by omega) (by omega)) (fun x _ _ => same x (by omega) (by omega)) (fun i hi => ?_)
            show I2 199 (1853 * (((p + 1) % 20 + 20 - j) % 20) + i) = I 199 (1853 * ((p + 20 - (j - 1)) % 20) + i)
            rw [show (p + 20 - (j - 1)) % 20 = ((p + 1) % 20 + 20 - j) % 20 by omega]
            exact hs _ i (by omega) (by omega) hi
  · have e1 := t_keep_old k.his k.world k.han k.wks k.nodes k.mem a3 a2 (show 1 + 6 ≤ a by omega) (show 17 + 12 ≤ a by omega) (show 29 < a by omega) (show 31 + 24 ≤ a by omega) (show 67 < a by omega) I hp hq p20 q20
    have w2 := w.copy (n := a) (m := a + 7) (g := a + 19) (w := a + 21) (by omega) (by omega) (by omega) (by decide) (by decide) (by decide) (Or.inr (by omega))
    have co : ∀ x, x ≠ 67 → (x < a ∨ a + 45 ≤ x) → kpI (h_X8_copyFrom I 1 17 29 31 a (a + 7) (a + 19) (a + 21)) 67 p q x = I x := fun x h1 h2 => by
      rw [ko _ _ h1, copy_out I 1 17 29 31 a (a + 7) (a + 19) (a + 21) (by omega) (by omega) (by omega) (by omega)]
    refine ⟨_, J, e1, k, r, fun a ha => rfl, fun x hx hne => co x hne (by omega), ad, fun I2 h67 hk h28 h29 hD hs => ⟨?_, ⟨h28, h29⟩, hK, hR, fun j hj => ?_⟩⟩
    · rw [h67]
      exact ⟨(k67 _).1, by omega, (k67 _).2, by omega⟩
    · by_cases z : j = 0
      · subst z
        refine ⟨a, by rw [show ((p + 1) % 20 + 19 - 0) % 20 = p by omega]; exact a1, ?_⟩
        refine w2.fr (fun x _ _ => ?_) (fun x _ _ => ?_) ?_ (fun x _ _ => ?_) (fun i hi => ?_)
        · rw [hk x (by omega), ko _ _ (by omega)]
        · rw [hk x (by omega), ko _ _ (by omega)]
        · rw [hk _ (by omega), ko _ _ (by omega)]
        · rw [hk x (by omega), ko _ _ (by omega)]
        · show I2 199 (1853 * (((p + 1) % 20 + 20 - 0) % 20) + i) = D i
          rw [show ((p + 1) % 20 + 20 - 0) % 20 = (p + 1) % 20 by omega]
          exact hD i hi
      · obtain ⟨b, b1, b2⟩ := hkp (j - 1) (by omega)
        have bs : (p + 19 - (j - 1)) % 20 = ((p + 1) % 20 + 19 - j) % 20 := by omega
        have bl : (a + 45 ≤ b ∨ b + 45 ≤ a) ∧ 208 ≤ b := by
          refine ⟨hK.2 p ((p + 19 - (j - 1)) % 20) a b p20 (by omega) (by omega) a1 b1, ?_⟩
          rcases hK.1 ((p + 19 - (j - 1)) % 20) (by omega) with ⟨y1, _⟩ | ⟨b', b1', _, _, b4, b5⟩
          · rw [y1] at b1; cases b1
          · rw [b1'] at b1; cases b1; exact b4
        refine ⟨b, by rw [← bs]; exact b1, ?_⟩
        have same : ∀ x, b ≤ x → x < b + 45 → I2 x = I x := fun x a1 a2 => by
          rw [hk x (by omega), co x (by omega) (by omega)]
        refine b2.fr (fun x _ _ => same x (by omega) (by omega)) (fun x _ _ => same x (by omega) (by omega)) (same _ (by omega) (by omega)) (fun x _ _ => same x (by omega) (by omega)) (fun i hi => ?_)
        show I2 199 (1853 * (((p + 1) % 20 + 20 - j) % 20) + i) = I 199 (1853 * ((p + 20 - (j - 1)) % 20) + i)
        rw [show (p + 20 - (j - 1)) % 20 = ((p + 1) % 20 + 20 - j) % 20 by omega]
        exact hs _ i (by omega) (by omega) hi
/-! The reference's rows copied. -/
theorem itr_cp (D : RowV) (o : Nat) : ∀ (n k : Nat) (A : RowV) (j : Nat), itr (fun k A => sD A (o + k) (D k)) k n A j = if o + k ≤ j ∧ j < o + k + n then D (j - o) else A j
  | 0, k, A, j => by
    rw [if_neg (by omega)]
    rfl
  | n + 1, k, A, j => by
    show itr (fun k A => sD A (o + k) (D k)) (k + 1) n (sD A (o + k) (D k)) j = _
    rw [itr_cp D o n (k + 1) _ j]
    by_cases q : j = o + k
    · rw [if_neg (by omega), if_pos (by omega), q, sD_s]
      congr 1
      omega
    · rw [sD_n _ _ q]
      by_cases q2 : o + (k + 1) ≤ j ∧ j < o + (k + 1) + n
      · rw [if_pos q2, if_pos (by omega)]
      · rw [if_neg q2, if_neg (by omega)]
/-- one row of the heap replaced -/
def rw1 (I : MI) (a : Nat) (A : RowV) : MI := fun x j => if x = a then A j else I x j
theorem rw1_s (I : MI) (a : Nat) (A : RowV) : rw1 I a A a = A := by
  funext j
  exact if_pos rfl
theorem rw1_n (I : MI) {a x : Nat} (A : RowV) (h : x ≠ a) : rw1 I a A x = I x := by
  funext j
  exact if_neg h
theorem rw1_st (I : MI) (a : Nat) (A : RowV) (k : Nat) (v : Int32) : up2 (rw1 I a A) a k v = rw1 I a (sD A k v) := by
  funext x j
  unfold up2 rw1 sD
  by_cases h : x = a
  · simp [h]
  · simp [h]
theorem rw1_id (I : MI) (a : Nat) : rw1 I a (I a) = I := by
  funext x j
  unfold rw1
  by_cases h : x = a
  · rw [if_pos h, h]
  · rw [if_neg h]
def kpA (A D : RowV) (p : Nat) : RowV := fun j => if 1853 * p ≤ j ∧ j < 1853 * p + 1853 then D (j - 1853 * p) else A j
def kpR (I : MI) (p q : Nat) : MI := rw1 (up2 (up2 I 188 29 (nI p)) 188 28 (nI q)) 199 (kpA (I 199) (I 194) p)
theorem m20 : ∀ p, p < 20 → (nI p + 1) - (nI p + 1) / 20 * 20 = nI ((p + 1) % 20) := by decide
theorem m20b : ∀ p, p < 20 → ((nI p + 20) - 1) - ((nI p + 20) - 1) / 20 * 20 = nI ((p + 19) % 20) := by decide
theorem w_keeps {J : MJ} (h : RefL J) (I : MI) {p q : Nat} (hp : I 188 29 = nI p) (p20 : p < 20) (hq : I 188 28 = nI q) (q20 : q ≤ 20) : M_X10_keeps [mR (some 188)] (I, J) = some (none, (kpR I ((p + 1) % 20) (min (q + 1) 20), J)) := by
  generalize hp' : (p + 1) % 20 = p'
  have p'20 : p' < 20 := by omega
  generalize hI1 : up2 I 188 29 (nI p') = I1
  have r199 : I1 199 = I 199 := by rw [← hI1]; funext j; simp [up2]
  have r194 : I1 194 = I 194 := by rw [← hI1]; funext j; simp [up2]
  have r29 : I1 188 29 = nI p' := by rw [← hI1]; simp [up2]
  have r28 : I1 188 28 = nI q := by rw [← hI1]; simp [up2]; exact hq
  rw [E_X10_keeps]
  simp only [h.fi, Option.bind_some]
  rw [if_neg (by decide), hp, m20 p p20, hp', h.wi, Option.bind_some, hI1]
  have s1 := loop_all (fun k A => Ev T_X10_keeps 15 [some (mR (some 188)), some (mI (nI k))] [] (rw1 I1 199 A, J)) (fun k A => sD A (1853 * p' + k) (I 194 k)) 1853 (I1 199) (fun k A hk => by
    try dsimp only
    rw [E_X10_keeps_15, if_neg (show ¬ (1853 : Int32) ≤ nI k from nI_ge hk (by decide))]
    have l : ld (rw1 I1 199 A, J) 11 194 (nI k) = some (I 194 k) := by
      rw [h.ldD _ rfl hk, rw1_n _ _ (by decide), r194]
    have e : (1853 : Int32) * nI p' + nI k = nI (1853 * p' + k) := by
      rw [show (1853 : Int32) = nI 1853 from rfl, nI_mul, nI_add]
    simp only [h.f27, h.fi, h.f18, Option.bind_some, l, rw1_n I1 A (show (188 : Nat) ≠ 199 by decide), r29, e]
    rw [st_ok _ _ h.s27 (inb_nI (show 1853 * p' + k < 37060 by omega) (by decide)), show (nI (1853 * p' + k)).toNatClampNeg = 1853 * p' + k from ix_nI (by omega), Option.bind_some, rw1_st, nI_1])
  try dsimp only at s1
  rw [rw1_id, show (nI 0) = 0 from rfl] at s1
  have ea : itr (fun k A => sD A (1853 * p' + k) (I 194 k)) 0 1853 (I1 199) = kpA (I 199) (I 194) p' := by
    funext j
    rw [itr_cp, r199]
    rfl
  rw [s1, ea, E_X10_keeps_15, if_pos (show (1853 : Int32) ≤ nI 1853 by decide)]
  have e28 : rw1 I1 199 (kpA (I 199) (I 194) p') 188 28 = nI q := by rw [rw1_n _ _ (by decide)]; exact r28
  simp only [h.fi, Option.bind_some, e28, h.wi]
  by_cases z : q = 20
  · subst z
    rw [if_pos (show (20 : Int32) ≤ nI 20 by decide)]
    have fin : rw1 I1 199 (kpA (I 199) (I 194) p') = kpR I p' (min (20 + 1) 20) → some (none, (rw1 I1 199 (kpA (I 199) (I 194) p'), J)) = (some (none, (kpR I p' (min (20 + 1) 20), J)) : Option MO) := fun q => by rw [q]
    apply fin
    unfold kpR
    rw [hI1]
    funext x j
    unfold rw1 up2
    by_cases y : x = 199
    · rw [if_pos y, if_pos y]
    · rw [if_neg y, if_neg y]
      by_cases w : x = 188 ∧ j = 28
      · rw [if_pos w, w.1, w.2, r28]
        rfl
      · rw [if_neg w]
  · rw [if_neg (show ¬ (20 : Int32) ≤ nI q from nI_ge (b := 20) (by omega) (by decide)), nI_1]
    have fin : up2 (rw1 I1 199 (kpA (I 199) (I 194) p')) 188 28 (nI (q + 1)) = kpR I p' (min (q + 1) 20) → some (none, (up2 (rw1 I1 199 (kpA (I 199) (I 194) p')) 188 28 (nI (q + 1)), J)) = (some (none, (kpR I p' (min (q + 1) 20), J)) : Option MO) := fun q => by rw [q]
    apply fin
    unfold kpR
    rw [hI1, show min (q + 1) 20 = q + 1 by omega]
    funext x j
    unfold rw1 up2
    by_cases y : x = 199
    · subst y
      simp
    · by_cases w : x = 188 ∧ j = 28
      · rw [if_pos w, if_neg y, if_pos w]
      · rw [if_neg w, if_neg y, if_neg w]
        exact if_neg y
theorem kpR_o (I : MI) (p q : Nat) {x : Nat} (h1 : x ≠ 188) (h2 : x ≠ 199) : kpR I p q x = I x := by
  unfold kpR
  rw [rw1_n _ _ h2]
  funext j
  simp [up2, h1]
theorem kpR_k (I : MI) (p q : Nat) {k : Nat} (h1 : k ≠ 28) (h2 : k ≠ 29) : kpR I p q 188 k = I 188 k := by
  unfold kpR
  rw [rw1_n _ _ (by decide)]
  simp [up2, h1, h2]
theorem kpR_29 (I : MI) (p q : Nat) : kpR I p q 188 29 = nI p ∧ kpR I p q 188 28 = nI q := by
  unfold kpR
  rw [rw1_n _ _ (by decide)]
  simp [up2]
theorem kpR_a (I : MI) (p q : Nat) : (∀ k, k < 1853 → kpR I p q 199 (1853 * p + k) = I 194 k) ∧ ∀ s k, s ≠ p → k < 1853 → kpR I p q 199 (1853 * s + k) = I 199 (1853 * s + k) := by
  unfold kpR
  rw [rw1_s]
  refine ⟨fun k hk => ?_, fun s k hs hk => ?_⟩
  · unfold kpA
    rw [if_pos (by omega)]
    congr 1
    omega
  · unfold kpA
    rw [if_neg]
    rcases Nat.lt_or_gt_of_ne hs with z | z
    · have : 1853 * s + 1853 ≤ 1853 * p := by omega
      omega
    · have : 1853 * p + 1853 ≤ 1853 * s := by omega
      omega

/-! A place for something new, on both sides. -/
theorem last_q {L l : Nat} {P : RouV} (hp : P 0 1 = nI l) (hL : l ≤ L) (hb : L < 1000) : q_X4_last L P = if l = 0 then 0 else P 1 (l - 1) := by
  unfold q_X4_last
  rw [hp]
  by_cases z : l = 0
  · rw [if_pos z, z]
    rfl
  · rw [if_neg z, show nI l - 1 = nI (l - 1) from nI_sub (b := 1) (by omega), stepAt_k hp (by omega) hL hb]
theorem isF_neg {U : NodV} {V : MemV} {x : Int32} (h : x < 0) : q_X1_isFolder U V x = 0 := by
  unfold q_X1_isFolder q_X1_isEntry
  rw [if_pos h, if_pos rfl]
/-- how a place is found -/
def Plo (U : NodV) (V1 : MemV) (P : RouV) (S : RowV) (l L : Nat) (Q y c' : Int32) : Prop := (y = 1 ∧ 0 < l ∧ ∃ a', c' = nI a' ∧ Q = nI a' ∧ At V1 a' ∧ ¬ q_X2_isFolder U (V1 4 a') = 0 ∧ ¬ q_X1_isFolder U V1 Q = 0 ∧ Nm (P 1 (l - 1)) (S (l - 1)) ∧ q_X4_last L P = P 1 (l - 1)) ∨ (y = 0 ∧ (q_X1_isFolder U V1 Q = 0 ∨ ¬ 0 < q_X4_last L P))
theorem Rel.isPlace {U : NodV} {V : MemV} {H : OneV} {W : WkV} {D : RowV} {n vol t T : Nat} {x : Nat → Nat} (r : Rel none U V H W D n) (i : Inv U V H W n vol t T x) (C : CntI V) (hx : ∀ e, e < 64 → ¬ x e = 0 → ¬ V 4 e = -1) {J : MJ} (h : RefL J) (I : MI) (hb : HB (I 188 20) x) (hw : I 188 21 = -1) (G : RowV) (c : Int32) {s1 : Nat} (hs1 : jS J s1 = (11, 64)) (hs : s1 ≠ 188 ∧ s1 ≠ 194 ∧ s1 ≠ 195) {L l : Nat} {P : RouV} (pth : Pth P (I s1) l) (hL : l ≤ L) (hLb : L < 1000) (l64 : l ≤ 64) (tT : t + 2 * l + 1 ≤ T) : ∃ D' G' c' y t', M_X10_isPlace [mR (some 188), mR (some s1), mI (nI l)] (rF I D G c, J) = some (some (mI y), (rF I D' G' c', J)) ∧ Stq none U V (gV_X1_walk L P U V (P 0 1 - 1)) H W D' n vol t' T 0 x ∧ t ≤ t' ∧ t' ≤ t + 2 * l + 1 ∧ Plo U (gV_X1_walk L P U V (P 0 1 - 1)) P (I s1) l L (q_X1_walk L P U V (P 0 1 - 1)) y c' := by
  have m1 : ix (P 0 1 - 1) = l - 1 := by
    rw [pth.1]
    by_cases z : l = 0
    · subst z; rfl
    · rw [show nI l - 1 = nI (l - 1) from nI_sub (b := 1) (by omega), ix_nI (by omega)]
  obtain ⟨D', G', c', how, t', w1, w2, w3, w4, w5⟩ := r.walks i C hx h I hb hw G c hs1 hs (P := P) (lp := l) (m := l - 1) (L := L) pth.1 (by omega) hL hLb (by omega) (fun k hk => pth.2 k (by omega)) (P 0 1 - 1) m1 (by omega)
  generalize gV_X1_walk L P U V (P 0 1 - 1) = V1 at w2 w5
  generalize q_X1_walk L P U V (P 0 1 - 1) = Q at w5
  have lq := last_q pth.1 hL hLb
  have bad : ∀ hw : Int32, (hw = -2 ∨ hw = -3) → how = hw → Q = hw → ∃ D' G' c' y t', M_X10_isPlace [mR (some 188), mR (some s1), mI (nI l)] (rF I D G c, J) = some (some (mI y), (rF I D' G' c', J)) ∧ Stq none U V V1 H W D' n vol t' T 0 x ∧ t ≤ t' ∧ t' ≤ t + 2 * l + 1 ∧ Plo U V1 P (I s1) l L Q y c' := by
    intro hw hh e1 e2
    have q0 : Q < 0 := by rw [e2]; rcases hh with z | z <;> rw [z] <;> decide
    have h0 : ¬ how = 0 := by rw [e1]; rcases hh with z | z <;> rw [z] <;> decide
    refine ⟨D', G', c', 0, t', ?_, w2, w3, by omega, Or.inr ⟨rfl, Or.inl (isF_neg q0)⟩⟩
    rw [E_X10_isPlace]
    by_cases z : l = 0
    · subst z
      rw [if_pos (show nI 0 ≤ 0 by decide)]
      rw [show 0 - 1 = 0 from rfl] at w1
      simp only [h.kt, if_true, show M_X10_walks [mR (some 188), mR (some s1), mI 0] (rF I D G c, J) = _ from w1, Option.bind_some, asI_I, if_neg h0]
      simp
    · rw [if_neg (nI_nle (by omega) (by omega)), show nI l - 1 = nI (l - 1) from nI_sub (b := 1) (by omega)]
      simp only [h.kt, if_true, w1, Option.bind_some, asI_I, if_neg h0]
      simp
  rcases w5 with ⟨a1, a', a2, a3, a4⟩ | ⟨a1, a2⟩ | ⟨a1, a2⟩
  · subst a1 a2 a3
    rw [E_X10_isPlace]
    by_cases z : l = 0
    · subst z
      rw [if_pos (show nI 0 ≤ 0 by decide)]
      rw [show 0 - 1 = 0 from rfl] at w1
      refine ⟨D', G', nI a', 0, t', ?_, w2, w3, by omega, Or.inr ⟨rfl, Or.inr (by rw [lq, if_pos rfl]; decide)⟩⟩
      simp only [h.kt, if_true, show M_X10_walks [mR (some 188), mR (some s1), mI 0] (rF I D G c, J) = _ from w1, Option.bind_some, asI_I]
      rw [if_pos (show nI 0 ≤ 0 by decide)]
      simp
    · have ls : ld (rF I D' G' (nI a'), J) 11 s1 (nI (l - 1)) = some (I s1 (l - 1)) := by
        rw [ld_ok _ hs1 (inb_nI (by omega) (by decide)), rF_o _ _ _ _ hs.1 hs.2.1 hs.2.2, show (nI (l - 1)).toNatClampNeg = l - 1 from ix_nI (by omega)]
      rw [if_neg (nI_nle (by omega) (by omega)), show nI l - 1 = nI (l - 1) from nI_sub (b := 1) (by omega)]
      simp only [h.kt, if_true, w1, Option.bind_some, asI_I, if_neg (nI_nle (show 0 < l by omega) (by omega)), h.fi, rF_c, w2.1.isFolder i.N w2.2.1.M h I G' (nI a') a4, ls]
      have a0 : ¬ V1 1 a' = 0 := by rw [a4.2.1]; exact i10
      by_cases fo : q_X1_isFolder U V1 (nI a') = 0
      · refine ⟨D', G', nI a', 0, t', ?_, w2, w3, by omega, Or.inr ⟨rfl, Or.inl fo⟩⟩
        rw [if_pos fo]
        simp
      · rw [if_neg fo]
        have sp := pth.2 (l - 1) (by omega)
        by_cases y0 : I s1 (l - 1) ≤ 0
        · refine ⟨D', G', nI a', 0, t', ?_, w2, w3, by omega, Or.inr ⟨rfl, Or.inr ?_⟩⟩
          · rw [if_pos y0]
            simp
          · rw [lq, if_neg z]
            exact fun w => (i32_gt_ne (sp.pos.1.mp w)).2.2.2 y0
        · refine ⟨D', G', nI a', 1, t', ?_, w2, w3, by omega, Or.inl ⟨rfl, by omega, a', rfl, rfl, a4, ?_, fo, sp.nm (sp.pos.1.mpr (Int32.not_le.mp y0)), by rw [lq, if_neg z]⟩⟩
          · rw [if_neg y0]
            simp
          · intro w
            rw [isF_q a4.1 a0, if_pos w] at fo
            exact fo rfl
  · exact bad (-2) (Or.inl rfl) a1 a2
  · exact bad (-3) (Or.inr rfl) a1 a2
theorem put_eq {U : NodV} {n vol : Nat} (hN : NodI U n vol) (n59 : n < 60) (a b c d : Int32) : q_X2_put U a b c d = nI n ∧ gU_X2_put U a b c d = uv (uv (uv (uv (uv U 0 5 (nI (n + 1))) 1 n a) 2 n b) 3 n c) 4 n d := by
  unfold q_X2_put gU_X2_put
  rw [hN.ev, if_neg (nI_pos (by omega)), if_pos (show nI n < 60 from nI_lt (b := 60) n59 (by decide)), ix_nI (by omega), nI_1, if_neg (nI_pos (by omega)), if_pos (show nI n < 60 from nI_lt (b := 60) n59 (by decide))]
  exact ⟨rfl, rfl⟩
/-- a node more -/
def addU (U : NodV) (n : Nat) (a b c d : Int32) : NodV := uv (uv (uv (uv (uv U 0 5 (nI (n + 1))) 1 n a) 2 n b) 3 n c) 4 n d
theorem addU_r (U : NodV) (n : Nat) (a b c d : Int32) : (∀ k, addU U n a b c d 1 k = if k = n then a else U 1 k) ∧ (∀ k, addU U n a b c d 2 k = if k = n then b else U 2 k) ∧ (∀ k, addU U n a b c d 3 k = if k = n then c else U 3 k) ∧ (∀ k, addU U n a b c d 4 k = if k = n then d else U 4 k) ∧ addU U n a b c d 5 = U 5 ∧ addU U n a b c d 0 5 = nI (n + 1) ∧ addU U n a b c d 0 6 = U 0 6 := by
  unfold addU
  refine ⟨fun k => ?_, fun k => ?_, fun k => ?_, fun k => ?_, ?_, ?_, ?_⟩
  · simp [uv]
  · simp [uv]
  · simp [uv]
  · simp [uv]
  · funext k; simp [uv]
  · simp [uv]
  · simp [uv]
theorem Inv.fill {U : NodV} {V : MemV} {H : OneV} {W : WkV} {n vol t T : Nat} {x : Nat → Nat} (i : Inv U V H W n vol t T x) (h30 : T + 1 ≤ 1000000000) (n59 : n < 60) {e p kp : Nat} (e64 : e < 64) (e1 : V 1 e = 1) (e2 : V 2 e = nI p) (e4 : V 4 e = -1) (p64 : p < 64) (p1 : V 1 p = 1) (pk : V 4 p = nI kp) (kn : kp < n) (k2 : U 4 kp = 2) (h3 : ¬ V 3 e = 0) (hf : q_X2_find U (nI kp) (V 3 e) = -1) {kind : Int32} (hkd : kind = 1 ∨ kind = 2) (x4 : x e = 0) {V' : MemV} (a4 : ∀ j, V' 4 j = if j = e then nI n else V 4 j) (a6 : ∀ j, V' 6 j = if j = e then V 6 e + 1 else V 6 j) (kk : ∀ q : Fin 12, q ≠ 4 → q ≠ 6 → V' q = V q) : Inv (addU U n (U 1 kp) (nI kp) (V 3 e) kind) V' H W (n + 1) vol t (T + 1) x := by
  obtain ⟨u1, u2, u3, u4, u5, u05, u06⟩ := addU_r U n (U 1 kp) (nI kp) (V 3 e) kind
  generalize addU U n (U 1 kp) (nI kp) (V 3 e) kind = U' at u1 u2 u3 u4 u5 u05 u06
  have hN := i.N
  have hM := i.M
  have n60 := hN.n60
  have kd0 : ¬ kind = 0 := by rcases hkd with z | z <;> rw [z] <;> decide
  have nof : ∀ k, k < n → ¬ U 4 k = 0 → U 2 k = nI kp → ¬ U 3 k = V 3 e := by
    rcases hN.fd (nI kp) (V 3 e) with ⟨_, z⟩ | ⟨k, k1, k2, _⟩
    · exact z
    · rw [hf] at k2
      exact absurd k2.symm (nI_m1 (by omega))
  have hN' : NodI U' (n + 1) vol := by
    refine ⟨u05, by omega, by rw [u06]; exact hN.vs, hN.v3, fun k hk => ?_, fun k hk => ?_, fun k hk q => ?_, fun v hv => ?_, fun k hk q1 q2 => ?_, fun k j hk hj q1 q2 q3 q4 q5 => ?_, ?_, by rw [u5]; exact hN.r00, fun k hk q => ?_⟩
    · rw [u1]
      by_cases z : k = n
      · rw [if_pos z]; exact hN.vol kp kn
      · rw [if_neg z]; exact hN.vol k (by omega)
    · rw [u4]
      by_cases z : k = n
      · rw [if_pos z]; exact Or.inr hkd
      · rw [if_neg z]; exact hN.kd k (by omega)
    · rw [u2] at q
      by_cases z : k = n
      · rw [if_pos z] at q; exact absurd q (nI_m1 (by omega))
      · rw [if_neg z] at q
        rw [u1, if_neg z, u5]
        exact hN.rt k (by omega) q
    · obtain ⟨r, r1, r2, r3, r4, r5⟩ := hN.rts v hv
      refine ⟨r, by omega, by rw [u5]; exact r2, by rw [u4, if_neg (by omega)]; exact r3, by rw [u2, if_neg (by omega)]; exact r4, by rw [u1, if_neg (by omega)]; exact r5⟩
    · rw [u4] at q1
      rw [u2] at q2
      by_cases z : k = n
      · refine ⟨kp, by omega, by rw [u2, if_pos z], by rw [u4, if_neg (by omega)]; exact k2, by rw [u1, u1, if_pos z, if_neg (by omega)]⟩
      · rw [if_neg z] at q1 q2
        obtain ⟨a, b1, b2, b3, b4⟩ := hN.par k (by omega) q1 q2
        refine ⟨a, by omega, by rw [u2, if_neg z]; exact b2, by rw [u4, if_neg (by omega)]; exact b3, by rw [u1, u1, if_neg z, if_neg (by omega)]; exact b4⟩
    · rw [u4] at q1 q2
      rw [u2] at q3
      rw [u2, u2] at q4
      rw [u3, u3] at q5
      by_cases z : k = n
      · by_cases z' : j = n
        · omega
        · rw [if_pos z, if_neg z'] at q4 q5
          rw [if_neg z'] at q2
          exact absurd q5.symm (nof j (by omega) q2 q4.symm)
      · by_cases z' : j = n
        · rw [if_neg z, if_pos z'] at q4 q5
          rw [if_neg z] at q1
          exact absurd q5 (nof k (by omega) q1 q4)
        · rw [if_neg z] at q1 q3
          rw [if_neg z'] at q2
          rw [if_neg z, if_neg z'] at q4 q5
          exact hN.uq k j (by omega) (by omega) q1 q2 q3 q4 q5
    · obtain ⟨d, hd⟩ := hN.rk
      refine ⟨fun k => if k = n then d kp + 1 else d k, fun k a h1 h2 q1 q2 => ?_⟩
      rw [u4] at q1
      rw [u2] at q2
      show (if a = n then d kp + 1 else d a) < if k = n then d kp + 1 else d k
      by_cases z : k = n
      · rw [if_pos z] at q2
        have : a = kp := ((nI_eq (by omega) (by omega)).mp q2).symm
        rw [if_pos z, if_neg (by omega), this]
        omega
      · rw [if_neg z] at q1 q2
        by_cases w : a = n
        · obtain ⟨b, b1, b2, _⟩ := hN.par k (by omega) q1 (by rw [q2]; exact nI_m1 (by omega))
          have : a = b := (nI_eq (by omega) (by omega)).mp (q2.symm.trans b2)
          omega
        · rw [if_neg z, if_neg w]
          exact hd k a (by omega) (by omega) q1 q2
    · rw [u2] at q
      rw [u3]
      by_cases z : k = n
      · rw [if_pos z]; exact h3
      · rw [if_neg z] at q ⊢
        exact hN.nn k (by omega) q
  have fo' : ∀ k, k < n → q_X2_isFolder U' (nI k) = q_X2_isFolder U (nI k) := fun k hk => by
    rw [fo_nI hN' (by omega), fo_nI hN hk, u4, if_neg (show ¬ k = n by omega)]
  have foM : ∀ y, ¬ q_X2_isFolder U y = 0 → ¬ q_X2_isFolder U' y = 0 := fun y hy => by
    obtain ⟨k, b1, b2, _⟩ := hN.fo hy
    rw [b2] at hy ⊢
    rw [fo' k b1]
    exact hy
  have fd' : ∀ a b, ¬ (a = nI kp ∧ b = V 3 e) → q_X2_find U' a b = q_X2_find U a b := fun a b hne => by
    unfold q_X2_find
    rw [hN'.evn, hN.evn, fst_ext (n := n) (m := 1) (fun k h1 h2 => by
      have : k = n := by omega
      rw [this, u4, u2, u3, if_pos rfl, if_pos rfl, if_pos rfl]
      simp only [decide_eq_false_iff_not]
      exact fun z => hne ⟨z.2.1.symm, z.2.2.symm⟩)]
    congr 1
    exact fst_cong (fun k _ hk => by rw [u4, u2, u3, if_neg (by omega), if_neg (by omega), if_neg (by omega)])
  have fdN : q_X2_find U' (nI kp) (V 3 e) = nI n := by
    unfold q_X2_find
    rw [hN'.evn, fst_is (j := n) (Nat.zero_le _) (by omega) (by
      rw [u4, u2, u3, if_pos rfl, if_pos rfl, if_pos rfl]
      simp [kd0]) (fun k _ hk => by
      rw [u4, u2, u3, if_neg (by omega), if_neg (by omega), if_neg (by omega)]
      simp only [decide_eq_false_iff_not]
      exact fun z => nof k hk z.1 z.2.1 z.2.2)]
    rfl
  have pe : p ≠ e := fun z => by rw [z, e4] at pk; exact nI_m1 (show kp < 2 ^ 31 by omega) pk.symm
  have ne4 : ∀ f, ¬ V 4 f = -1 → f ≠ e := fun f q z => q (by rw [z]; exact e4)
  have nfo : ∀ f, ¬ q_X2_isFolder U (V 4 f) = 0 → f ≠ e := fun f q => ne4 f (fun z => by
    obtain ⟨k, b1, b2, _⟩ := hN.fo q
    rw [z] at b2
    exact nI_m1 (show k < 2 ^ 31 by omega) b2.symm)
  have nodn : ∀ f, f < 64 → ¬ V 1 f = 0 → ¬ V 4 f = nI n := fun f hf q z => by
    rcases hM.st f hf with s | s | s
    · exact q s
    · obtain ⟨k, b1, b2, _⟩ := hM.nk hN ⟨hf, s, by rw [z]; exact nI_m1 (by omega)⟩
      have : k = n := (nI_eq (by omega) (by omega)).mp (b2.symm.trans z)
      omega
    · obtain ⟨_, k, b1, b2, _⟩ := hM.go f hf s
      have : k = n := (nI_eq (by omega) (by omega)).mp (b2.symm.trans z)
      omega
  have c1 := kk 1 (by decide) (by decide)
  have c2 := kk 2 (by decide) (by decide)
  have c3 := kk 3 (by decide) (by decide)
  have c8 := kk 8 (by decide) (by decide)
  have c9 := kk 9 (by decide) (by decide)
  have c10 := kk 10 (by decide) (by decide)
  have c0 := kk 0 (by decide) (by decide)
  refine ⟨hN', ⟨?_, ?_, ?_, ?_, ?_, ?_, ?_, ?_, ?_, ?_, ?_, ?_⟩, ⟨?_, by have := i.Z.tT; omega, h30, ?_, ?_, ?_⟩, ?_, ?_, ?_⟩
  · rw [c1]; exact hM.st
  · rw [c9]; exact hM.r0
  · rw [c10]; exact hM.o0
  · intro v hv
    rw [c9, c10, c1, c2, u5]
    rcases hM.rt v hv with q | ⟨q1, r, r64, q2, q3, q4, q5⟩
    · exact Or.inl q
    · refine Or.inr ⟨q1, r, r64, q2, q3, q4, ?_⟩
      rw [a4, if_neg]
      · exact q5
      · intro z
        rw [z, e2] at q4
        exact nI_m1 (show p < 2 ^ 31 by omega) q4
  · intro v h1 hv
    rw [c9, c10, c1, c2]
    intro q
    obtain ⟨o, o64, w1, w2, w3, w4⟩ := hM.ov v h1 hv q
    refine ⟨o, o64, w1, w2, w3, ?_⟩
    rw [a4, if_neg (nfo o w4)]
    exact foM _ w4
  · rw [c10]; exact hM.oi
  · obtain ⟨ρ, hρ⟩ := hM.vr
    refine ⟨ρ, fun v o k u h1 h2 h3 h4 h5 h6 h7 h8 => ?_⟩
    rw [c10] at h4
    have of := (hM.ok h2 h3 h4).2.2.2.2
    rw [a4, if_neg (nfo o of)] at h5
    obtain ⟨k', b1, b2, _⟩ := hN.fo of
    have : k = k' := (nI_eq (by omega) (by omega)).mp (h5.symm.trans b2)
    rw [u1, if_neg (by omega)] at h7
    exact hρ v o k u h1 h2 h3 h4 h5 (by omega) h7 h8
  · rw [c1, c2, c9]; exact hM.ro
  · intro f hf q1 q2
    rw [c1] at q1
    rw [c2] at q2
    rw [c2, c1, c3]
    obtain ⟨p', y1, y2, y3, y4, y5⟩ := hM.ch f hf q1 q2
    refine ⟨p', y1, y2, y3, ?_, ?_⟩
    · rw [a4, if_neg (nfo p' y4)]; exact foM _ y4
    · rw [a4, a4, if_neg (nfo p' y4)]
      by_cases z : f = e
      · subst z
        have : p' = p := (nI_eq (by omega) (by omega)).mp (y2.symm.trans e2)
        rw [if_pos rfl, this, pk, fdN]
      · rw [if_neg z, fd', y5]
        rintro ⟨w1, w2⟩
        have pp : p' = p := hM.nd p' p y1 p64 (by rw [y3]; exact i10) (by rw [p1]; exact i10) (by rw [w1]; exact nI_m1 (by omega)) (by rw [w1, pk])
        exact z (hM.sb f e hf e64 q1 e1 q2 (by rw [y2, pp, e2]) w2)
  · intro f hf q1
    rw [c1] at q1
    rw [c2, a4, if_neg]
    · obtain ⟨b1, k, b2, b3, b4⟩ := hM.go f hf q1
      exact ⟨b1, k, by omega, b3, by rw [u4, if_neg (by omega)]; exact b4⟩
    · intro z
      rw [z, e1] at q1
      exact absurd q1 (by decide)
  · rw [c1, c2, c3]; exact hM.sb
  · intro f g hf hg q1 q2 q3 q4
    rw [c1] at q1 q2
    rw [a4] at q3
    rw [a4, a4] at q4
    by_cases z : f = e
    · by_cases z' : g = e
      · rw [z, z']
      · rw [if_pos z, if_neg z'] at q4
        exact absurd q4.symm (nodn g hg q2)
    · by_cases z' : g = e
      · rw [if_neg z, if_pos z'] at q4
        exact absurd q4 (nodn f hf q1)
      · rw [if_neg z] at q3
        rw [if_neg z, if_neg z'] at q4
        exact hM.nd f g hf hg q1 q2 q3 q4
  · rw [c0]; exact i.Z.tk
  · rw [c1, c8]; exact i.Z.bi
  · intro f hf q
    rw [c1] at q
    rw [a6]
    by_cases z : f = e
    · obtain ⟨c, d1, d2⟩ := i.Z.co f hf q
      rw [if_pos z, ← z, d1, nI_1]
      exact ⟨c + 1, rfl, by omega⟩
    · rw [if_neg z]
      obtain ⟨c, d1, d2⟩ := i.Z.co f hf q
      exact ⟨c, d1, by omega⟩
  · exact ⟨by rw [c0]; exact i.Z.li, i.Z.tri.le (by rw [c0]) (fun k _ q => by rw [c1] at q; exact q) (Nat.le_refl _)⟩
  · intro f hf
    rw [c1, kk 5 (by decide) (by decide), hc_fr c1 c2 c10]
    exact i.L f hf
  · intro k hk'
    rcases i.H k hk' with z | ⟨f, f1, f2, f3, f4⟩
    · exact Or.inl z
    · exact Or.inr ⟨f, f1, f2, by rw [c1]; exact f3, by rw [a4, if_neg (ne4 f f4)]; exact f4⟩
  · intro k hk' q
    obtain ⟨m, d, l, r, hr, hw⟩ := i.W k hk' q
    refine ⟨m, d, l, r, hr, hw.m, hw.d, hw.l, hw.r, hw.m1, hw.md, hw.dl, hw.l12, hw.r3, fun j hj => ?_⟩
    obtain ⟨f, f64, g1, ⟨b1, d1, g2, g3, g4, g5, g6⟩, g7⟩ := (hw.wy j hj).ex
    refine ⟨f, f64, g1, ⟨b1, d1, g2, g3, g4, by omega, ?_⟩, ?_⟩
    · intro q1 q2
      rw [c1] at q1
      rw [c8] at q2
      obtain ⟨cc, y1, y2, y3, y4⟩ := g6 q1 q2
      rw [a6, c1, a4]
      by_cases z : f = e
      · subst z
        rw [if_pos rfl, y1, nI_1]
        exact ⟨cc + 1, rfl, by omega, by omega, fun w => by omega⟩
      · rw [if_neg z, if_neg z]
        exact ⟨cc, y1, y2, by omega, y4⟩
    · intro q1
      have y := g7 q1
      rw [c1, a4, if_neg (ne4 f y.2)]
      exact y

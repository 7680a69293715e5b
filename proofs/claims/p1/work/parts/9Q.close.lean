/-! The reference sweeps; handles opened and closed; the room; trimming. -/
def swD (G : RowV) (k : Nat) (D : RowV) : RowV := if D (701 + 9 * k + 0) = 1 ∧ D (701 + 9 * k + 8) = 1 ∧ G k = 0 then sD D (701 + 9 * k + 0) 0 else D
theorem itr_sw (G : RowV) : ∀ (n k : Nat) (D : RowV) (j : Nat), (∀ i, k ≤ i → i < k + n → j ≠ 701 + 9 * i + 0) → itr (swD G) k n D j = D j
  | 0, k, D, j, _ => rfl
  | n + 1, k, D, j, h => by
    show itr (swD G) (k + 1) n (swD G k D) j = D j
    rw [itr_sw G n (k + 1) _ j (fun i a b => h i (by omega) (by omega))]
    unfold swD
    split
    · exact sD_n _ _ (h k (Nat.le_refl _) (by omega))
    · rfl
theorem itr_sw_at (G : RowV) : ∀ (n k : Nat) (D : RowV) (i : Nat), k ≤ i → i < k + n → itr (swD G) k n D (701 + 9 * i + 0) = if D (701 + 9 * i + 0) = 1 ∧ D (701 + 9 * i + 8) = 1 ∧ G i = 0 then 0 else D (701 + 9 * i + 0)
  | 0, k, D, i, h1, h2 => by omega
  | n + 1, k, D, i, h1, h2 => by
    show itr (swD G) (k + 1) n (swD G k D) (701 + 9 * i + 0) = _
    rcases Nat.eq_or_lt_of_le h1 with q | q
    · subst q
      rw [itr_sw G n (k + 1) _ _ (fun j a b => by omega)]
      unfold swD
      split
      · rw [sD_s]
      · rfl
    · rw [itr_sw_at G n (k + 1) _ i (by omega) (by omega)]
      have e : ∀ f, swD G k D (701 + 9 * i + f) = D (701 + 9 * i + f) := fun f => by
        unfold swD
        split
        · exact sD_n _ _ (by omega)
        · rfl
      rw [e 0, e 8]
theorem Rel.sweeps {U : NodV} {V V' : MemV} {H : OneV} {W : WkV} {D : RowV} {n vol t T : Nat} {x : Nat → Nat} (r : Rel none U V H W D n) (i : Inv U V H W n vol t T x) {J : MJ} (h : RefL J) (I : MI) (hb : I 188 20 = -1) (G : RowV) (c : Int32) (k : ∀ q : Fin 12, q ≠ 0 → q ≠ 1 → q ≠ 5 → q ≠ 11 → V' q = V q) (k0 : V' 0 11 = V 0 11 ∧ V' 0 12 = V 0 12 ∧ V' 0 13 = V 0 13 ∧ V' 0 14 = V 0 14) (k1 : ∀ f, f < 64 → V' 1 f = if V 1 f = 2 ∧ hc V H W f = 0 then 0 else V 1 f) : ∃ D' G', M_X10_sweeps [mR (some 188)] (rF I D G c, J) = some (none, (rF I D' G' c, J)) ∧ Rel none U V' H W D' n := by
  obtain ⟨c1, c2, c3⟩ := r.ch i
  obtain ⟨G', g1, g2⟩ := w_counts h I D G c c1 c2 c3 (Or.inl hb)
  have n60 := i.N.n60
  have gq : ∀ e, e < 64 → ¬ V 1 e = 0 → G' e = nI (hc V H W e) := fun e he q => by
    rw [g2 e (by omega), r.eqe i he q, r.eqh i e, hb, if_neg (fun z => nI_m1 (show e < 2 ^ 31 by omega) z.symm)]
    have hs : hcC V e + hcV V e + (hcH H e + hcW W e + pnd none V W e) + 0 = hc V H W e := by
      have p0 : pnd none V W e = 0 := rfl
      unfold hc
      rw [p0]
      omega
    rw [hs]
  have gz : ∀ e, e < 64 → ¬ V 1 e = 0 → (G' e = 0 ↔ hc V H W e = 0) := fun e he q => by
    have hl := i.hle e
    rw [gq e he q]
    constructor
    · intro z
      exact (nI_eq (by omega) (by omega)).mp (z.trans nI_0.symm)
    · intro z
      rw [z]; rfl
  refine ⟨itr (swD G') 0 128 D, G', ?_, ?_⟩
  · rw [E_X10_sweeps]
    simp only [h.kt, if_true, g1, Option.bind_some, asV_n]
    have s1 := loop_all (fun k D => Ev T_X10_sweeps 6 [some (mR (some 188)), some (mI (nI k))] [] (rF I D G' c, J)) (swD G') 128 D (fun k D hk => by
      try dsimp only
      rw [E_X10_sweeps_6, if_neg (show ¬ (128 : Int32) ≤ nI k from nI_ge hk (by decide))]
      simp only [h.kt, if_true, w_its h _ 0 (show (0 : Int32) = nI 0 from rfl) hk (by decide), w_its h _ 8 (show (8 : Int32) = nI 8 from rfl) hk (by decide), Option.bind_some, asI_I, rF_D, rF_G, nI_1, h.f19, h.f18, h.ldG _ rfl hk, w_entryAt _ k 0 (show (0 : Int32) = nI 0 from rfl), h.stD _ _ rfl (show 701 + 9 * k + 0 < 1853 by omega), rF_sD]
      unfold swD
      by_cases a : D (701 + 9 * k + 0) = 1
      · rw [if_pos a]
        by_cases b : D (701 + 9 * k + 8) = 1
        · rw [if_pos b]
          by_cases d : G' k = 0
          · rw [if_pos d, if_pos ⟨a, b, d⟩]
          · rw [if_neg d, if_neg (fun z => d z.2.2)]
        · rw [if_neg b, if_neg (fun z => b z.2.1)]
      · rw [if_neg a, if_neg (fun z => a z.1)])
    try dsimp only at s1
    rw [show (nI 0) = 0 from rfl] at s1
    rw [s1, E_X10_sweeps_6, if_pos (show (128 : Int32) ≤ nI 128 by decide)]
  · have o : ∀ j, (∀ e, e < 128 → j ≠ 701 + 9 * e + 0) → itr (swD G') 0 128 D j = D j := fun j q => itr_sw G' 128 0 D j (fun e _ b => q e (by omega))
    have b := r.B
    refine r.fr ⟨?_, ?_, ?_, ?_, ?_, ?_, ?_, ?_, ?_, ?_, ?_⟩ (fun j h1 h2 => o j (fun e _ => by omega)) (fun k z => by cases z)
    · rw [o 0 (fun e _ => by omega), k0.2.1]; exact b.tk
    · rw [o 1 (fun e _ => by omega), k0.2.2.1]; exact b.lo
    · rw [o 2 (fun e _ => by omega), k0.2.2.2]; exact b.tr
    · rw [o 3 (fun e _ => by omega), k0.1]; exact b.rm
    · rw [o 4 (fun e _ => by omega)]; exact b.ev
    · intro v hv
      rw [o _ (fun e _ => by omega), k 9 (by decide) (by decide) (by decide) (by decide)]; exact b.rt v hv
    · intro v hv
      rw [o _ (fun e _ => by omega), k 10 (by decide) (by decide) (by decide) (by decide)]; exact b.ov v hv
    · intro v hv
      rw [o _ (fun e _ => by omega)]; exact b.ha v hv
    · intro j hj
      rw [o _ (fun e _ => by omega), o _ (fun e _ => by omega), o _ (fun e _ => by omega), o _ (fun e _ => by omega), o _ (fun e _ => by omega)]
      exact b.nd j hj
    · intro f hf
      rw [itr_sw_at G' 128 0 D f (Nat.zero_le _) (by omega)]
      by_cases z : f < 64 ∧ ¬ V 1 f = 0
      · have en := b.en f z.1 z.2
        rw [b.th1 z.1 z.2, en.2.2.2.2.2.2.2, k1 f z.1]
        by_cases y : V 1 f = 2 ∧ hc V H W f = 0
        · rw [if_pos y, if_pos ⟨rfl, by rw [if_pos y.1], (gz f z.1 z.2).mpr y.2⟩, if_neg (fun w => w.2 rfl)]
        · rw [if_neg y, if_neg, if_pos z]
          rintro ⟨_, w2, w3⟩
          by_cases v2 : V 1 f = 2
          · exact y ⟨v2, (gz f z.1 z.2).mp w3⟩
          · rw [if_neg v2] at w2
            exact absurd w2 (by decide)
      · have th0 : D (701 + 9 * f + 0) = 0 := by rw [b.th f hf, if_neg z]
        rw [th0, if_neg (fun w => absurd w.1 (by decide)), if_neg]
        rintro ⟨w1, w2⟩
        apply w2
        rw [k1 f w1]
        have : V 1 f = 0 := Classical.byContradiction (fun y => z ⟨w1, y⟩)
        rw [this]
        split <;> rfl
    · intro f hf q
      have v1 : ¬ V 1 f = 0 ∧ V' 1 f = V 1 f := by
        rw [k1 f hf] at q ⊢
        by_cases y : V 1 f = 2 ∧ hc V H W f = 0
        · rw [if_pos y] at q; exact absurd rfl q
        · rw [if_neg y] at q ⊢; exact ⟨q, rfl⟩
      rw [o _ (fun e _ => by omega), o _ (fun e _ => by omega), o _ (fun e _ => by omega), o _ (fun e _ => by omega), o _ (fun e _ => by omega), o _ (fun e _ => by omega), o _ (fun e _ => by omega), o _ (fun e _ => by omega), k 2 (by decide) (by decide) (by decide) (by decide), k 3 (by decide) (by decide) (by decide) (by decide), k 4 (by decide) (by decide) (by decide) (by decide), k 6 (by decide) (by decide) (by decide) (by decide), k 7 (by decide) (by decide) (by decide) (by decide), k 8 (by decide) (by decide) (by decide) (by decide), v1.2, cov_fr (k 10 (by decide) (by decide) (by decide) (by decide))]
      exact b.en f hf v1.1
/-- a handle's place set, on both sides -/
theorem Rel.hset {U : NodV} {V : MemV} {H : OneV} {W : WkV} {D : RowV} {n : Nat} (r : Rel none U V H W D n) {k : Nat} (hk : k < 6) (v : Int32) (n60 : n ≤ 60) : Rel none U V (uv H 0 k v) W (sD D (11 + k) v) n := by
  have o : ∀ j, j ≠ 11 + k → sD D (11 + k) v j = D j := fun j q => sD_n _ _ q
  have b := r.B
  refine r.fr ⟨?_, ?_, ?_, ?_, ?_, ?_, ?_, ?_, ?_, ?_, ?_⟩ (fun j h1 h2 => o j (by omega)) (fun k z => by cases z)
  · rw [o 0 (by omega)]; exact b.tk
  · rw [o 1 (by omega)]; exact b.lo
  · rw [o 2 (by omega)]; exact b.tr
  · rw [o 3 (by omega)]; exact b.rm
  · rw [o 4 (by omega)]; exact b.ev
  · intro v hv
    rw [o _ (by omega)]; exact b.rt v hv
  · intro v hv
    rw [o _ (by omega)]; exact b.ov v hv
  · intro j hj
    rw [uv_at]
    by_cases z : j = k
    · rw [if_pos z, z, sD_s]
    · rw [if_neg z, o _ (by omega)]; exact b.ha j hj
  · intro j hj
    rw [o _ (by omega), o _ (by omega), o _ (by omega), o _ (by omega), o _ (by omega)]
    exact b.nd j hj
  · intro f hf
    rw [o _ (by omega)]
    exact b.th f hf
  · intro f hf q
    rw [o _ (by omega), o _ (by omega), o _ (by omega), o _ (by omega), o _ (by omega), o _ (by omega), o _ (by omega), o _ (by omega)]
    exact b.en f hf q
/-- a world out of its windows -/
theorem Wd.mk {I : MI} {U : NodV} {V : MemV} {H : OneV} {W : WkV} {D : RowV} {nn vol t T : Nat} (i : Inv U V H W nn vol t T (fun _ => 0)) (c : CntI V) (r : Rel none U V H W D nn) (q1 : vw 6 I 1 = U) (q2 : vw 12 I 17 = V) (q3 : vw 1 I 29 = H) (q4 : ∀ k, k < 4 → WkEq (wks I 31 k) (W k)) (qD : I 194 = D) : Wd I 1 17 29 31 (I 194) vol T := by
  refine ⟨nn, t, ?_, ?_, ?_⟩
  · rw [q1, q2, q3]
    exact i.cg (UEq.refl _) (VEq.refl _) (fun _ _ => rfl) q4
  · rw [q2]; exact c
  · rw [q1, q2, q3, qD]
    exact r.cg i.N.n60 (UEq.refl _) (VEq.refl _) (fun _ _ => rfl) q4 (fun _ _ => rfl)

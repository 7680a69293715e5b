/-! An act undone, on both sides. -/
theorem w_undo {J : MJ} (h : RefL J) (I : MI) {p q : Nat} (hp : I 188 29 = nI p) (p20 : p < 20) (hq : I 188 28 = nI (q + 1)) (q20 : q < 20) : M_X10_undo [mR (some 188)] (I, J) = some (some (mI 1), (up2 (up2 (rw1 I 194 (fun j => if j < 1853 then I 199 (1853 * p + j) else I 194 j)) 188 29 (nI ((p + 19) % 20))) 188 28 (nI q), J)) := by
  rw [E_X10_undo]
  simp only [h.fi, Option.bind_some, hq]
  rw [if_neg (nI_ne0 (by omega) (by omega))]
  have s1 := loop_all (fun k A => Ev T_X10_undo 15 [some (mR (some 188)), some (mI (nI k))] [] (rw1 I 194 A, J)) (fun k A => sD A (0 + k) (I 199 (1853 * p + k))) 1853 (I 194) (fun k A hk => by
    try dsimp only
    rw [E_X10_undo_15, if_neg (show ¬ (1853 : Int32) ≤ nI k from nI_ge hk (by decide))]
    have e : (1853 : Int32) * nI p + nI k = nI (1853 * p + k) := by
      rw [show (1853 : Int32) = nI 1853 from rfl, nI_mul, nI_add]
    have l : ld (rw1 I 194 A, J) 11 199 (nI (1853 * p + k)) = some (I 199 (1853 * p + k)) := by
      rw [ld_ok _ h.s27 (inb_nI (show 1853 * p + k < 37060 by omega) (by decide)), show (nI (1853 * p + k)).toNatClampNeg = 1853 * p + k from ix_nI (by omega), rw1_n _ _ (by decide)]
    simp only [h.f18, h.f27, h.fi, Option.bind_some, rw1_n I A (show (188 : Nat) ≠ 194 by decide), hp, e, l, h.stD _ _ rfl hk, rw1_st, nI_1, Nat.zero_add])
  try dsimp only at s1
  rw [rw1_id, show (nI 0) = 0 from rfl] at s1
  have ea : itr (fun k A => sD A (0 + k) (I 199 (1853 * p + k))) 0 1853 (I 194) = fun j => if j < 1853 then I 199 (1853 * p + j) else I 194 j := by
    funext j
    rw [itr_cp (fun k => I 199 (1853 * p + k)) 0]
    by_cases z : j < 1853
    · rw [if_pos (by omega), if_pos z, Nat.sub_zero]
    · rw [if_neg (by omega), if_neg z]
  rw [s1, ea, E_X10_undo_15, if_pos (show (1853 : Int32) ≤ nI 1853 by decide)]
  generalize (fun j => if j < 1853 then I 199 (1853 * p + j) else I 194 j) = A
  have r29 : rw1 I 194 A 188 29 = nI p := by rw [rw1_n _ _ (by decide)]; exact hp
  have r28 : ∀ v, up2 (rw1 I 194 A) 188 29 v 188 28 = nI (q + 1) := fun v => by rw [up2_k _ _ _ (by decide), rw1_n _ _ (by decide)]; exact hq
  simp only [h.fi, Option.bind_some, r29, h.wi, r28]
  rw [if_neg (show ¬ (20 : Int32) = 0 by decide), m20b p p20, nI_pred]
  simp
theorem P_undo {I : MI} {J : MJ} {T B0 : Nat} (h : St I J T B0) (h30 : T + 10001 ≤ 1000000000) : Pair I J T B0 (M_X9_undo [mR (some 0)]) (M_X10_undo [mR (some 188)]) := by
  have no : ∀ {ad p vol}, His I J ad p 0 vol T B0 → Pair I J T B0 (M_X9_undo [mR (some 0)]) (M_X10_undo [mR (some 188)]) := fun {ad p vol} hs => by
    refine Pair.no h h30 (k := 4) (by decide) (u_undo_no h.1.1 I hs.1.1 hs.1.2.2.1 hs.1.2.1) ?_
    have e : rfz I 4 188 28 = 0 := by rw [rfz_o _ _ (by decide)]; exact hs.2.1.1
    rw [E_X10_undo]
    simp only [h.1.2.fi, Option.bind_some, e, if_true, h.1.2.kt, w_isRefused h.1.2 _ (show (4 : Int32) = nI 4 from rfl) (by decide)]
    simp [asI]
  rcases h.2.2.2.2.2.2.2.2.2 with ⟨vol, ad, p, q, hv, td, w, hs⟩ | u
  · cases q with
    | zero => exact no hs
    | succ q =>
      obtain ⟨⟨hp, p20, hq, q20⟩, ⟨h28, h29⟩, hK, hR, hk⟩ := hs
      obtain ⟨a, a1, aw⟩ := hk 0 (by omega)
      have pb : bkp p = (p + 19) % 20 := by unfold bkp; split <;> omega
      have ar : jR J 68 (bkp p) = some (a + 6) ∧ KwL J a ∧ 208 ≤ a := by
        rw [pb]
        rcases hK.1 ((p + 19) % 20) (by omega) with ⟨z, _⟩ | ⟨b, b1, b2, b3, b4, _⟩
        · rw [show (p + 19 - 0) % 20 = (p + 19) % 20 by omega, z] at a1; cases a1
        · rw [show (p + 19 - 0) % 20 = (p + 19) % 20 by omega, b1] at a1; cases a1; exact ⟨b2, b3, b4⟩
      have uE := u_undo h.1.1 I hp hq p20 (by omega) ar.2.1 ar.1 (by have := ar.2.2; omega)
      have co : ∀ x, (7 ≤ x ∧ x < 17) ∨ 55 ≤ x ∨ x = 0 → h_X8_copyFrom I a (a + 7) (a + 19) (a + 21) 1 17 29 31 x = I x := fun x hx => copy_out _ _ _ _ _ _ _ _ _ (by omega) (by omega) (by omega) (by omega)
      have w2 := aw.copy (n := 1) (m := 17) (g := 29) (w := 31) (by decide) (by decide) (by decide) (by omega) (by omega) (by omega) (Or.inl (by have := ar.2.2; omega))
      generalize hC : h_X8_copyFrom I a (a + 7) (a + 19) (a + 21) 1 17 29 31 = C at uE co w2
      generalize hI1 : up2 (up2 C 67 1 (nI (bkp p))) 67 2 (nI q) = I1 at uE
      have i1 : ∀ x, x ≠ 67 → I1 x = C x := fun x hx => by rw [← hI1, up2_o _ _ _ hx, up2_o _ _ _ hx]
      have lo : ∀ x, 188 ≤ x → I1 x = I x := fun x hx => by rw [i1 x (by omega), co x (by omega)]
      have wE := w_undo (J := J) h.1.2 I1 (p := p) (q := q) (by rw [lo 188 (by decide)]; exact h29) p20 (by rw [lo 188 (by decide)]; exact h28) (by omega)
      generalize hI2 : up2 (up2 (rw1 I1 194 (fun j => if j < 1853 then I1 199 (1853 * p + j) else I1 194 j)) 188 29 (nI ((p + 19) % 20))) 188 28 (nI q) = I2 at wE
      have o2 : ∀ x, x ≠ 188 → x ≠ 194 → I2 x = I1 x := fun x a b => by rw [← hI2, up2_o _ _ _ a, up2_o _ _ _ a, rw1_n _ _ b]
      have f2 : ∀ k, k ≠ 28 → k ≠ 29 → I2 188 k = I 188 k := fun k a b => by rw [← hI2, up2_k _ _ _ a, up2_k _ _ _ b, rw1_n _ _ (by decide), lo 188 (by decide)]
      have d2 : ∀ k, k < 1853 → I2 194 k = I 199 (1853 * ((p + 20 - 0) % 20) + k) := fun k hk => by
        rw [← hI2, up2_o _ _ _ (by decide), up2_o _ _ _ (by decide), rw1_s]
        show (if k < 1853 then _ else _) = _
        rw [if_pos hk, lo 199 (by decide), show (p + 20 - 0) % 20 = p by omega]
      have all : ∀ x, (7 ≤ x ∧ x < 17) ∨ 55 ≤ x ∨ x = 0 → x ≠ 67 → x ≠ 188 → x ≠ 194 → I2 x = I x := fun x a b c d => by rw [o2 x c d, i1 x b, co x a]
      obtain ⟨L, s7⟩ := h.2.2.2.2.2.2.2.1
      refine ⟨1, _, I2, J, uE, wE, h.1, h.2.1.fr (all _ (by omega) (by decide) (by decide) (by decide)) (all _ (by omega) (by decide) (by decide) (by decide)) (f2 _ (by decide) (by decide)) (all _ (by omega) (by decide) (by decide) (by decide)), h.2.2.1.fr (all _ (by omega) (by decide) (by decide) (by decide)) (f2 _ (by decide) (by decide)) (f2 _ (by decide) (by decide)), h.2.2.2.1.fr (all _ (by omega) (by decide) (by decide) (by decide)) (all _ (by omega) (by decide) (by decide) (by decide)), h.2.2.2.2.1.fr (by rw [all 0 (by omega) (by decide) (by decide) (by decide)]) (all _ (by omega) (by decide) (by decide) (by decide)) (f2 _ (by decide) (by decide)) (all _ (by omega) (by decide) (by decide) (by decide)), h.2.2.2.2.2.1.fr (by rw [all 0 (by omega) (by decide) (by decide) (by decide)]) (all _ (by omega) (by decide) (by decide) (by decide)) (f2 _ (by decide) (by decide)) (all _ (by omega) (by decide) (by decide) (by decide)), h.2.2.2.2.2.2.1, ⟨L, s7.fr (by rw [all 69 (by omega) (by decide) (by decide) (by decide)]) (by rw [all 69 (by omega) (by decide) (by decide) (by decide)]) (fun x _ _ => all x (by omega) (by omega) (by omega) (by omega)) (f2 _ (by decide) (by decide)) (f2 _ (by decide) (by decide)) (all _ (by omega) (by decide) (by decide) (by decide)) (all _ (by omega) (by decide) (by decide) (by decide))⟩, h.2.2.2.2.2.2.2.2.1.fr (f2 _ (by decide) (by decide)) (f2 _ (by decide) (by decide)), Or.inl ⟨vol, ad, (p + 19) % 20, q, by rw [f2 11 (by decide) (by decide)]; exact hv, by rw [f2 13 (by decide) (by decide)]; exact td, ?_, ⟨?_, ?_, ?_, ?_⟩, ⟨?_, ?_⟩, hK, hR, fun j hj => ?_⟩⟩
      · exact (w2.fr (fun x _ _ => by rw [o2 x (by omega) (by omega), i1 x (by omega)]) (fun x _ _ => by rw [o2 x (by omega) (by omega), i1 x (by omega)]) (by rw [o2 29 (by decide) (by decide), i1 29 (by decide)]) (fun x _ _ => by rw [o2 x (by omega) (by omega), i1 x (by omega)]) d2).T (by omega) h30
      · rw [o2 67 (by decide) (by decide), ← hI1, up2_k _ _ _ (by decide), up2_s, pb]
      · omega
      · rw [o2 67 (by decide) (by decide), ← hI1, up2_s]
      · omega
      · rw [← hI2, up2_s]
      · rw [← hI2, up2_k _ _ _ (by decide), up2_s]
      · obtain ⟨b, b1, b2⟩ := hk (j + 1) (by omega)
        have bg : 208 ≤ b := by
          rcases hK.1 ((p + 19 - (j + 1)) % 20) (by omega) with ⟨z, _⟩ | ⟨b', b1', _, _, b4, _⟩
          · rw [z] at b1; cases b1
          · rw [b1'] at b1; cases b1; exact b4
        have up : ∀ x, 208 ≤ x → I2 x = I x := fun x hx => all x (by omega) (by omega) (by omega) (by omega)
        refine ⟨b, by rw [show ((p + 19) % 20 + 19 - j) % 20 = (p + 19 - (j + 1)) % 20 by omega]; exact b1, (b2.fr (fun x _ _ => up x (by omega)) (fun x _ _ => up x (by omega)) (up _ (by omega)) (fun x _ _ => up x (by omega)) (fun k _ => ?_)).T (by omega) h30⟩
        show I2 199 _ = I 199 _
        rw [all 199 (by omega) (by decide) (by decide) (by decide), show ((p + 19) % 20 + 20 - j) % 20 = (p + 20 - (j + 1)) % 20 by omega]
  · exact no u.2.2.2.2.choose_spec.choose_spec

/-! What a path needs, on both sides. -/
theorem P_needs {I : MI} {J : MJ} {T B0 : Nat} (h : St I J T B0) (h30 : T + 10001 ≤ 1000000000) : Pair I J T B0 (M_X9_needs [mR (some 0)]) (M_X10_needs [mR (some 188)]) := by
  obtain ⟨n, t1, t2, t3⟩ := h.2.1
  have T4 := t1.1
  have rl := h.1.2
  have uE := u_needs h.1.1 I T4 t1.2.1
  have no : ∀ y p' l' S', ¬ (rowO I n).1 = 1 → M_X10_isPath [mR (some 188)] (tkn I n, J) = some (some (mI y), (pF (bgP (tkn I n) n) (nI p') (nI l') S', J)) → (y = 0 ∨ bz (I 188 13) = 0) → Pair I J T B0 (M_X9_needs [mR (some 0)]) (M_X10_needs [mR (some 188)]) := by
    intro y p' l' S' hn g1 hc
    rw [if_neg hn] at uE
    have f13 : pF (bgP (tkn I n) n) (nI p') (nI l') S' 188 13 = I 188 13 := by rw [pF_k _ _ _ _ (by decide) (by decide), bgP_k _ _ (by decide) (by decide) (by decide), tkn_o _ _ (by decide) (by decide)]
    refine ⟨-1, _, pF (bgP (tkn I n) n) (nI p') (nI l') S', J, uE, ?_, ?_⟩
    · rw [E_X10_needs]
      simp only [rl.kt, if_true, g1, Option.bind_some, asI_I, rl.fz, f13]
      by_cases z : y = 0
      · rw [if_pos z]
      · rw [if_neg z, if_pos (hc.resolve_left z)]
    · have o : ∀ x, x ≠ 7 → (x < 158 ∨ 183 ≤ x) → x ≠ 188 → x ≠ 192 → pF (bgP (tkn I n) n) (nI p') (nI l') S' x = I x := fun x a b c d => by rw [pF_o _ _ _ _ c d, bgP_o _ _ c, tkn_o _ _ a b]
      refine h.tk h30 (h.2.2.2.1.fr (o 186 (by decide) (by decide) (by decide) (by decide)) (o 190 (by decide) (by decide) (by decide) (by decide))) (fun x a b _ c _ d _ _ _ => o x a b c d) (fun k a b c d _ _ => ?_) ?_ ?_
      · rw [pF_k _ _ _ _ b d, bgP_k _ _ a b c, tkn_o _ _ (by decide) (by decide)]
      · rw [pF_o _ _ _ _ (by decide) (by decide), bgP_o _ _ (by decide)]; exact tkn_7 I n
      · rw [pF_k _ _ _ _ (by decide) (by decide)]; exact (bgP_3 _ _).2.1
  obtain ⟨y0, p0, l0, S0, g0, how0⟩ := path1 (Y := tkn I n) rl t1 (by rw [tkn_o _ _ (by decide) (by decide)]; exact t2) (fun k hk => by rw [tkn_o _ _ (by decide) (by decide)]; exact t3 k hk)
  rcases h.2.2.2.2.2.2.2.2.2 with ⟨vol, ad, p, q, hv, td, ⟨nn, t, i, c, r⟩, hs⟩ | u
  · have h6 : ¬ I 1 6 ≤ 0 := Told.h6 i
    rcases how0 h6 with ⟨hy, _⟩ | ⟨hn, y00⟩
    · rw [if_pos hy] at uE
      have e1 : vw 6 (tkn I n) 1 = vw 6 I 1 := vw_fr (fun x _ _ => tkn_o I n (by omega) (by omega))
      have e2 : vw 12 (tkn I n) 17 = vw 12 I 17 := vw_fr (fun x _ _ => tkn_o I n (by omega) (by omega))
      have e17 : tkn I n 17 13 = I 17 13 := by rw [tkn_o _ _ (by decide) (by decide)]
      unfold tryV at uE
      rw [e1, e2, e17] at uE
      generalize hV' : gV_X1_walk 12 (vw 2 (tkn I n) 158) (vw 6 I 1) (gV_X1_copyFrom (vw 12 I 17) (vw 12 (tkn I n) 55)) (tkn I n 158 1) = V' at uE
      have oT : ∀ x, x < 55 ∨ 67 ≤ x → pt (tkn I n) 55 V' x = tkn I n x := fun x a => pt_out (by omega)
      obtain ⟨y, p', l', S', g1, how⟩ := path1 (Y := pt (tkn I n) 55 V') rl t1 (by rw [oT _ (by omega), tkn_o _ _ (by decide) (by decide)]; exact t2) (fun k hk => by rw [oT _ (by omega), tkn_o _ _ (by decide) (by decide)]; exact t3 k hk)
      rcases how h6 with ⟨_, y1, l12, pth⟩ | ⟨z, _⟩
      · subst y1
        sorry
      · exact absurd hy z
    · exact no y0 p0 l0 S0 hn g0 (Or.inl y00)
  · refine no y0 p0 l0 S0 ?_ g0 (Or.inr u.2.1)
    unfold rowO
    rw [if_pos (by rw [u.2.2.1.2.1]; exact Int32.le_refl _)]
    exact (by decide : ¬ (-1 : Int32) = 1)

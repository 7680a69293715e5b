/-! The letters told, on both sides. -/
theorem P_letter {I : MI} {J : MJ} {T B0 : Nat} (h : St I J T B0) (h30 : T + 10001 ≤ 1000000000) (x y k : Int32) : Pair I J T B0 (M_X9_letter [mR (some 0), mI x, mI y, mI k]) (M_X10_letter [mR (some 188), mI x, mI y, mI k]) := by
  have rl := h.1.2
  have lst : (3 : Int32) < k ↔ ¬ k < 4 := by
    rw [Int32.lt_iff_toInt_lt, Int32.lt_iff_toInt_lt]
    have a : (3 : Int32).toInt = 3 := rfl
    have b : (4 : Int32).toInt = 4 := rfl
    omega
  have isin := w_isIn k 0 3 (I, J) (show (0 : Int64) = Int32.toInt64 0 from rfl) (show (3 : Int64) = Int32.toInt64 3 from rfl)
  by_cases hk : k < 0 ∨ ¬ k < 4
  · refine Pair.ask h h30 (u_letter h.1.1 I x y k) (w := -1) ?_ ?_
    · have z : (if k < 0 then (0 : Int32) else if 3 < k then 0 else 1) = 0 := by
        rcases hk with q | q
        · rw [if_pos q]
        · rw [if_pos (lst.mpr q), ite_self]
      rw [E_X10_letter, isin, z]
      simp only [Option.bind_some, asI_I, if_true]
    · unfold letQ
      rcases hk with q | q
      · rw [if_pos q, ite_self]
      · rw [if_neg q, ite_self, ite_self]
  · have k0 : ¬ k < 0 := fun z => hk (Or.inl z)
    have k4 : k < 4 := by
      rcases Decidable.em (k < 4) with z | z
      · exact z
      · exact absurd (Or.inr z) hk
    have kn : k = nI (ix k) := nI_ix k0
    have kl : ix k < 4 := by
      rcases Nat.lt_or_ge (ix k) 4 with z | z
      · exact z
      · exact absurd k4 (by rw [kn]; exact nI_nlt (b := 4) z (ix_lt k))
    have z1 : (if k < 0 then (0 : Int32) else if 3 < k then 0 else 1) = 1 := by rw [if_neg k0, if_neg (fun z => lst.mp z k4)]
    rw [z1] at isin
    rcases h.2.2.2.2.2.2.2.2.2 with ⟨vol, ad, p, q, _, td, ⟨nn, t, i, _, r⟩, _⟩ | u
    · have n60 := i.N.n60
      have we := w_isEntry rl td r y
      have wn := w_isNode rl td i.N r y
      by_cases hx : x = 0
      · by_cases a : q_X2_exists (vw 6 I 1) y = 0
        · refine Pair.ask h h30 (u_letter h.1.1 I x y k) (w := -1) ?_ ?_
          · rw [E_X10_letter, isin]
            simp only [Option.bind_some, asI_I, if_neg i10, if_pos hx, rl.kt, if_true, wn.1, if_pos a]
          · unfold letQ
            rw [if_pos hx, if_pos a]
        · obtain ⟨b1, b2, b3⟩ := wn.2 a
          have nm := (r.B.nd (ix y) b2).2.2.1
          have nh : M_X10_nodeHas [mR (some 188), mI y, mI 3] (I, J) = some (some (mI (I 194 (401 + 5 * ix y + 3))), (I, J)) := by
            have := w_nodeHas rl I 3 (show (3 : Int32) = nI 3 from rfl) (show ix y < 60 by omega) (by decide)
            rw [← b1] at this
            exact this
          have lo := w_letterOf nm kl (I, J)
          rw [← kn] at lo
          refine Pair.ask h h30 (u_letter h.1.1 I x y k) (w := q_X9_letterOf (vw 6 I 1 3 (ix y)) k) ?_ ?_
          · rw [E_X10_letter, isin]
            simp only [Option.bind_some, asI_I, if_neg i10, if_pos hx, rl.kt, if_true, wn.1, if_neg a, nh, lo]
          · unfold letQ q_X2_nameOf
            rw [if_pos hx, if_pos hx, if_neg a, if_neg k0, if_pos k4, if_neg a]
      · by_cases a : q_X1_isEntry (vw 12 I 17) y = 0
        · refine Pair.ask h h30 (u_letter h.1.1 I x y k) (w := -1) ?_ ?_
          · rw [E_X10_letter, isin]
            simp only [Option.bind_some, asI_I, if_neg i10, if_neg hx, rl.kt, if_true, we.1, if_pos a]
          · unfold letQ
            rw [if_neg hx, if_pos a]
        · obtain ⟨b1, b2, b3⟩ := we.2 a
          have nm := (r.B.en (ix y) b2 b3).2.1
          have nh : M_X10_its [mR (some 188), mI y, mI 2] (I, J) = some (some (mI (I 194 (701 + 9 * ix y + 2))), (I, J)) := by
            have := w_its rl I 2 (show (2 : Int32) = nI 2 from rfl) (show ix y < 128 by omega) (by decide)
            rw [← b1] at this
            exact this
          have lo := w_letterOf nm kl (I, J)
          rw [← kn] at lo
          refine Pair.ask h h30 (u_letter h.1.1 I x y k) (w := q_X9_letterOf (vw 12 I 17 3 (ix y)) k) ?_ ?_
          · rw [E_X10_letter, isin]
            simp only [Option.bind_some, asI_I, if_neg i10, if_neg hx, rl.kt, if_true, we.1, if_neg a, nh, lo]
          · unfold letQ q_X1_nameOf
            rw [if_neg hx, if_neg hx, if_neg a, if_neg k0, if_pos k4, if_neg a]
    · refine Pair.ask h h30 (u_letter h.1.1 I x y k) (w := -1) ?_ ?_
      · rw [E_X10_letter, isin]
        by_cases hx : x = 0
        · simp [hx, rl.kt, E_X10_isNode, rl.fz, u.2.1, asI]
        · simp [hx, rl.kt, E_X10_isEntry, rl.fz, u.2.1, asI]
      · unfold letQ
        rw [if_pos]
        by_cases hx : x = 0
        · rw [if_pos hx]
          unfold q_X2_exists
          by_cases a : y < 0
          · rw [if_pos a]
          · rw [if_neg a]
            have ev0 : vw 6 I 1 0 5 = 0 := u.2.2.1.1
            rw [ev0]
            simp [Int32.not_lt.mp a]
        · rw [if_neg hx]
          unfold q_X1_isEntry
          by_cases a : y < 0
          · rw [if_pos a]
          · rw [if_neg a]
            by_cases b : (64 : Int32) ≤ y
            · rw [if_pos b]
            · rw [if_neg b, if_pos]
              refine u.2.2.1.2.2.1 (ix y) ?_
              rcases Nat.lt_or_ge (ix y) 64 with z | z
              · exact z
              · exact absurd (by rw [nI_ix a]; exact nI_le (a := 64) z (ix_lt y)) b

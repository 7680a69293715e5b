/-! What is below an entry by a name, on both sides. -/
theorem clr_o (I : MI) {x : Nat} (h : x ≠ 7) : clr I x = I x := by
  unfold clr
  by_cases z : x = 8
  · subst z
    funext j
    simp [pt, gQ_X5_clear, uv, vw]
  · rw [pt_out (by omega)]
theorem clr_7 (I : MI) : clr I 7 1 = 0 := by
  unfold clr
  simp [pt, gQ_X5_clear, uv]
theorem w_child_bad {J : MJ} (h : RefL J) (Z : MI) (x y z : Int32) : Ev T_X10_child 22 [some (mR (some 188)), some (mI x), some (mI y), some (mI 0), some (mI z)] [] (Z, J) = some (some (mI (-1)), (Z, J)) := by
  rw [E_X10_child_22]
  simp only [h.fi, Option.bind_some, if_true, ite_self]
theorem w_child_loop {J : MJ} (h : RefL J) (Z : MI) (x : Int32) {Q : RouV} {n : Nat} (t : Tap Q n) (z3 : Z 188 3 = nI n) (z9 : ∀ k, k < n → Z 189 k = Q 1 k) (n4 : n ≤ 4) : ∀ (nn k : Nat), k + nn = n → (∀ j, j < k → Lt (Q 1 j)) → Ev T_X10_child 22 [some (mR (some 188)), some (mI x), some (mI (rnm (Q 1) 0 k)), some (mI 1), some (mI (nI k))] [] (Z, J) = some (some (mI (-1)), (Z, J)) ∧ (∃ j, j < n ∧ ¬ Lt (Q 1 j)) ∨ Ev T_X10_child 22 [some (mR (some 188)), some (mI x), some (mI (rnm (Q 1) 0 k)), some (mI 1), some (mI (nI k))] [] (Z, J) = Ev T_X10_child 22 [some (mR (some 188)), some (mI x), some (mI (rnm (Q 1) 0 n)), some (mI 1), some (mI (nI n))] [] (Z, J) ∧ ∀ j, j < n → Lt (Q 1 j)
  | 0, k, hk, hl => by
    have : k = n := by omega
    subst this
    exact Or.inr ⟨rfl, hl⟩
  | nn + 1, k, hk, hl => by
    have ld' : ld (Z, J) 11 189 (nI k) = some (Q 1 k) := by
      rw [ld_ok _ h.s0 (inb_nI (by omega) (by decide)), show (nI k).toNatClampNeg = k from ix_nI (by omega), ← z9 k (by omega)]
    have st : Ev T_X10_child 22 [some (mR (some 188)), some (mI x), some (mI (rnm (Q 1) 0 k)), some (mI 1), some (mI (nI k))] [] (Z, J) = Ev T_X10_child 22 [some (mR (some 188)), some (mI x), some (mI (rnm (Q 1) 0 (k + 1))), some (mI (q_X9_isLetter (Q 1 k))), some (mI (nI (k + 1)))] [] (Z, J) := by
      rw [E_X10_child_22]
      simp only [h.fi, Option.bind_some, z3, if_neg (show ¬ nI n ≤ nI k from nI_ge (show k < n by omega) (by omega)), if_neg i10, h.f0, ld', w_isLetter, asI_I, nI_1]
      show _ = Ev T_X10_child 22 [some (mR (some 188)), some (mI x), some (mI (27 * rnm (Q 1) 0 k + Q 1 (0 + k) - 97 + 1)), some (mI (q_X9_isLetter (Q 1 k))), some (mI (nI (k + 1)))] [] (Z, J)
      rw [Nat.zero_add]
    rw [st]
    rcases t.lt (show k < n by omega) with ⟨a, b⟩ | ⟨a, b⟩
    · rw [a]
      exact w_child_loop h Z x t z3 z9 n4 nn (k + 1) (by omega) (fun j hj => by
        by_cases z : j = k
        · rw [z]; exact b
        · exact hl j (by omega))
    · rw [a, w_child_bad h]
      exact Or.inl ⟨rfl, k, by omega, b⟩
theorem P_child {I : MI} {J : MJ} {T B0 : Nat} (h : St I J T B0) (h30 : T + 10001 ≤ 1000000000) (x : Int32) : Pair I J T B0 (M_X9_child [mR (some 0), mI x]) (M_X10_child [mR (some 188), mI x]) := by
  obtain ⟨n, t1, t2, t3⟩ := h.2.1
  have T4 := t1.1
  have hl : I 7 1 = nI n := t1.2.1
  have rl := h.1.2
  have uE := u_child h.1.1 I x
  rw [hl] at uE
  have zo : ∀ y, y ≠ 7 → y ≠ 188 → bgP (clr I) n y = I y := fun y a b => by rw [bgP_o _ _ b, clr_o _ a]
  have zk : ∀ k, k ≠ 1 → k ≠ 2 → k ≠ 3 → bgP (clr I) n 188 k = I 188 k := fun k a b c => by rw [bgP_k _ _ a b c, clr_o _ (by decide)]
  have st2 : St (bgP (clr I) n) J (T + 10001) B0 := by
    refine h.tk h30 (h.2.2.2.1.fr (zo 186 (by decide) (by decide)) (zo 190 (by decide) (by decide))) (fun y a _ _ b _ _ _ _ _ => zo y a b) (fun k a b c _ _ _ => zk k a b c) ?_ (bgP_3 _ _).2.1
    rw [bgP_o _ _ (by decide)]
    exact clr_7 I
  have run : M_X10_child [mR (some 188), mI x] (clr I, J) = Ev T_X10_child 22 [some (mR (some 188)), some (mI x), some (mI 0), some (mI (if nI n < 1 then 0 else if 4 < nI n then 0 else 1)), some (mI 0)] [] (bgP (clr I) n, J) := by
    rw [E_X10_child]
    simp only [rl.kt, if_true, w_beginsPaths rl (clr I) (show clr I 188 1 = nI n by rw [clr_o _ (by decide)]; exact t2), Option.bind_some, asV_n, rl.fi, (bgP_3 (clr I) n).1, w_isIn (nI n) 1 4 _ (show (1 : Int64) = Int32.toInt64 1 from rfl) (show (4 : Int64) = Int32.toInt64 4 from rfl), asI_I]
  have bad : q_X9_nameBetween (vw 2 I 7) 0 (nI n) = 0 → M_X10_child [mR (some 188), mI x] (clr I, J) = some (some (mI (-1)), (bgP (clr I) n, J)) → Pair I J T B0 (M_X9_child [mR (some 0), mI x]) (M_X10_child [mR (some 188), mI x]) := fun q r => by
    rw [if_pos q] at uE
    exact ⟨-1, _, _, J, uE, r, st2⟩
  have none' := fun hn => nb_none t1 (p := 0) (n := n) (by omega) hn
  rw [Nat.zero_add] at none'
  by_cases n0 : n = 0
  · refine bad (none' (Or.inl n0)) ?_
    rw [run, n0, if_pos (show nI 0 < 1 by decide), w_child_bad rl]
  · by_cases n4 : 4 < n
    · refine bad (none' (Or.inr (Or.inl n4))) ?_
      rw [run, if_neg (show ¬ nI n < 1 from nI_nlt (b := 1) (by omega) (by omega)), if_pos (show 4 < nI n from nI_lt (a := 4) n4 (by omega)), w_child_bad rl]
    · rw [if_neg (show ¬ nI n < 1 from nI_nlt (b := 1) (by omega) (by omega)), if_neg (show ¬ 4 < nI n from nI_nlt (a := 4) (b := n) (by omega) (by omega))] at run
      have z9 : ∀ k, k < n → bgP (clr I) n 189 k = vw 2 I 7 1 k := fun k hk => by
        rw [zo 189 (by decide) (by decide)]
        exact t3 k hk
      rcases w_child_loop rl (bgP (clr I) n) x t1 (bgP_3 (clr I) n).1 z9 (by omega) n 0 (by omega) (fun j hj => by omega) with ⟨w1, j, j1, j2⟩ | ⟨w1, w2⟩
      · refine bad (none' (Or.inr (Or.inr ⟨j, j1, by rw [Nat.zero_add]; exact j2⟩))) ?_
        rw [run]
        exact w1
      · have nm := nb_all t1 (p := 0) (n := n) (by omega) (fun j hj => by rw [Nat.zero_add]; exact w2 j hj) (by omega) (by omega)
        rw [Nat.zero_add] at nm
        have nz : ¬ q_X9_nameBetween (vw 2 I 7) 0 (nI n) = 0 := fun z => by
          have : (0 : Int32) < q_X9_nameBetween (vw 2 I 7) 0 (nI n) := nm.gt.1
          rw [z] at this
          exact absurd this (by decide)
        rw [if_neg nz] at uE
        have nm' : Nm (q_X9_nameBetween (vw 2 I 7) 0 (nI n)) (rnm (vw 2 I 7 1) 0 n) := nm
        generalize q_X9_nameBetween (vw 2 I 7) 0 (nI n) = name at uE nm'
        have run2 : M_X10_child [mR (some 188), mI x] (clr I, J) = Ev T_X10_child 22 [some (mR (some 188)), some (mI x), some (mI (rnm (vw 2 I 7 1) 0 n)), some (mI 1), some (mI (nI n))] [] (bgP (clr I) n, J) := run.trans w1
        refine ⟨_, _, _, J, uE, ?_, st2⟩
        rw [run2, E_X10_child_22]
        simp only [rl.fi, Option.bind_some, (bgP_3 (clr I) n).1, if_pos (Int32.le_refl (nI n)), if_neg i10, rl.kt, if_true]
        rcases h.2.2.2.2.2.2.2.2.2 with ⟨vol, ad, p, q, _, td, ⟨nn, t, i, _, r⟩, _⟩ | u
        · have wn := w_isEntry (I := bgP (clr I) n) rl (by rw [zk 13 (by decide) (by decide) (by decide)]; exact td) (by rw [zo 194 (by decide) (by decide)]; exact r) x
          have ch := w_childHere rl (bgP (clr I) n) x (rnm (vw 2 I 7 1) 0 n)
          rw [zo 194 (by decide) (by decide), r.eqc x nm'] at ch
          simp only [wn.1, Option.bind_some, asI_I, ch, rl.kt, if_true]
          unfold q_X1_find
          by_cases a : q_X1_isEntry (vw 12 I 17) x = 0
          · rw [if_pos a, if_pos a]
          · rw [if_neg a, if_neg a]
            rfl
        · have un : q_X1_find (vw 12 I 17) x name = -1 := by
            unfold q_X1_find q_X1_isEntry
            rw [if_pos]
            by_cases a : x < 0
            · rw [if_pos a]
            · rw [if_neg a]
              by_cases b : (64 : Int32) ≤ x
              · rw [if_pos b]
              · rw [if_neg b, if_pos]
                refine u.2.2.1.2.2.1 (ix x) ?_
                rcases Nat.lt_or_ge (ix x) 64 with z | z
                · exact z
                · exact absurd (by rw [nI_ix a]; exact nI_le (a := 64) z (ix_lt x)) b
          have ie : M_X10_isEntry [mR (some 188), mI x] (bgP (clr I) n, J) = some (some (mI 0), (bgP (clr I) n, J)) := by
            have u13 : bz (bgP (clr I) n 188 13) = 0 := by rw [zk 13 (by decide) (by decide) (by decide)]; exact u.2.1
            rw [E_X10_isEntry]
            simp [rl.fz, u13]
          simp only [ie, Option.bind_some, asI_I, if_true, un]
